/-! PURE 99n: the clauses of a train, one after another. -/
section
variable {G : GG} {X t N k n j p : Nat} {T : Nat → Nat} {h h' h1 h2 : AH} {w w' w1 w2 wr wr' : MS} {wl : List (List Nat)} {f : Int32}
/-- after a fault the class reads no clause -/
theorem cl_F (hs : SyH wl N T X h w k f) (hf : f ≠ 0) (hT : TrS h t) (hb : m_i h (X + 6) 1 = 0 ∨ m_i h (X + 6) 1 = 1) (v : Int32) : ∃ h', f_X10_readClause G (X + 6) t v h = some h' ∧ SyH wl N T X h' w k f ∧ Fr (fun a => a = X + 1) h h' := by
  obtain ⟨p1, p2, p3⟩ := rd6 hs.1
  obtain ⟨hK, hXc, hC, hTw, hW⟩ := hs.2
  have e9 : m_i h (X + 1) 9 = f := hC.2.2.2.2
  have cl : ∀ c : Int32, lrv 0 (X + 1) (s_X8_fail G c) h = some (rh h (X + 1) (rs_of h (X + 1))) := fun c => lrv_e hs.1 (by unfold s_X8_fail; rw [hC.2.2.2.2, if_neg hf])
  have hF : FrC (rs_of h (X + 1)) (rs_of h (X + 1)) := FrC.rf
  have hF1 := (rh_f hF).1
  have hs1 : SyH wl N T X (rh h (X + 1) (rs_of h (X + 1))) w k f := hs.rh hF hs.2
  have z9 : ¬ m_i (rh h (X + 1) (rs_of h (X + 1))) (X + 1) 9 = 0 := by
    rw [show m_i (rh h (X + 1) (rs_of h (X + 1))) (X + 1) 9 = f from hs1.2.2.2.1.2.2.2.2]; exact hf
  have z9' : ¬ m_i h (X + 1) 9 = 0 := by rw [e9]; exact hf
  obtain ⟨q1, q2, q3⟩ := rd6 hs1.1
  generalize hh : rh h (X + 1) (rs_of h (X + 1)) = ha at cl hF1 hs1 z9 q1 q2 q3
  have hb' : (m_i h (X + 6) 1) &&& 1 = m_i h (X + 6) 1 := by rcases hb with z | z <;> rw [z] <;> rfl
  have pl : ∀ x, ∃ r, f_X10_isOutOfPlace G (X + 6) t x v h = some (r, h) := fun x => by
    unfold f_X10_isOutOfPlace
    simp only [u_ck p1, u_ck hT.1, u_ck hb']
    repeat' split
    all_goals exact ⟨_, rfl⟩
  unfold f_X10_readClause
  rw [u_ck p1, p2, u_ob, u_ck p3, u_nn, u_nn]
  by_cases z : (300 : Int32) ≤ m_i h (X + 1) 7
  · rw [if_pos z, u_nn]
    by_cases y : v = 40
    · rw [if_pos y]; dsimp only
      rw [u_ck p1, p2, u_ob, u_ck p3, cl, u_ob, u_ck q1, q2, u_ob, u_ck q3, if_neg z9]
      exact ⟨_, rfl, hs1, hF1⟩
    · obtain ⟨r, hr⟩ := pl (m_i h (X + 1) 7)
      rw [if_neg y, hr, u_cb]
      by_cases x : r = 0
      · rw [if_pos x]; dsimp only
        rw [u_ck p1, p2, u_ob, u_ck p3, if_neg z9']
        exact ⟨_, rfl, hs, Fr.rf⟩
      · rw [if_neg x]; dsimp only
        rw [u_ck p1, p2, u_ob, u_ck p3, cl, u_ob, u_ck q1, q2, u_ob, u_ck q3, if_neg z9]
        exact ⟨_, rfl, hs1, hF1⟩
  · rw [if_neg z, u_ob, u_ck p3, cl, u_ob]; dsimp only
    rw [u_ck q1, q2, u_ob, u_ck q3, if_neg z9]
    exact ⟨_, rfl, hs1, hF1⟩
theorem go_F (hT : TxW N T w) (h : AtW N T w k f) (hf : f ≠ 0) : ∃ w', p_X12_goesOn G w = some (0, w') ∧ FrW w w' ∧ w'.1 0 34 = f := by
  obtain ⟨wa, a1, a2, a3⟩ := blanks_F (G := G) hT h hf
  have e : ¬ wa.1 0 34 = 0 := by rw [a3.1]; exact hf
  refine ⟨w_si wa 0 33 (wa.1 0 33 + 1), ?_, a2.tr (FrW.s (Or.inl rfl)), by rw [w_si_j (by decide)]; exact a3.1⟩
  unfold p_X12_goesOn
  rw [a1, u_ob, u_nn, if_neg e]
  dsimp only
  rw [u_nn, u_nn, if_neg e]
  dsimp only
  rw [u_nn, u_ck (show (0 : Int32) &&& 1 = 0 from rfl)]
theorem go_E (hT : TxW N T w) (h : AtW N T w k 0) (hk : ¬ tp N T k < N) : ∃ w', p_X12_goesOn G w = some (0, w') ∧ FrW w w' ∧ w'.1 0 34 = 0 := by
  have bl := blanks_W (G := G) hT h
  have tl := tp_le (N := N) (T := T) k
  have hN := hT.1
  have e : (w_si w 0 33 (nI (tp N T k))).1 0 34 = 0 := by rw [w_si_j (by decide)]; exact h.1
  have e32 : (w_si w 0 33 (nI (tp N T k))).1 0 32 = nI N := by rw [w_si_j (by decide)]; exact hT.2.1
  have e33 : (w_si w 0 33 (nI (tp N T k))).1 0 33 = nI (tp N T k) := w_si_s _ _ _ _
  have le : nI N ≤ nI (tp N T k) := nI_le (by omega) (by omega)
  have fW : FrW w (w_si w 0 33 (nI (tp N T k))) := FrW.s (Or.inl rfl)
  generalize w_si w 0 33 (nI (tp N T k)) = wa at bl e e32 e33 fW
  refine ⟨w_si wa 0 33 (nI (tp N T k) + 1), ?_, fW.tr (FrW.s (Or.inl rfl)), by rw [w_si_j (by decide)]; exact e⟩
  unfold p_X12_goesOn
  rw [bl, u_ob, u_nn, if_pos e, e32, e33, if_pos le]
  dsimp only
  rw [u_nn, u_nn, if_pos e, e32, e33, if_pos le]
  dsimp only
  rw [u_nn, u_ck (show (0 : Int32) &&& 1 = 0 from rfl)]
theorem go_Y (hT : TxW N T w) (h : AtW N T w k 0) (hk : tp N T k < N) (h59 : T (tp N T k) = 59) : p_X12_goesOn G w = some (1, w_si (w_si w 0 33 (nI (tp N T k))) 0 33 (nI (tp N T k + 1))) := by
  have bl := blanks_W (G := G) hT h
  have hN := hT.1
  have hTa : TxW N T (w_si w 0 33 (nI (tp N T k))) := hT.s33 (by decide)
  have e : (w_si w 0 33 (nI (tp N T k))).1 0 34 = 0 := by rw [w_si_j (by decide)]; exact h.1
  have e32 : (w_si w 0 33 (nI (tp N T k))).1 0 32 = nI N := by rw [w_si_j (by decide)]; exact hT.2.1
  have e33 : (w_si w 0 33 (nI (tp N T k))).1 0 33 = nI (tp N T k) := w_si_s _ _ _ _
  have le : ¬ nI N ≤ nI (tp N T k) := nI_ge hk (by omega)
  have sg : sgn N T (tp N T k) = (59 : Int32) := by unfold sgn; rw [if_pos hk, h59]; rfl
  generalize w_si w 0 33 (nI (tp N T k)) = wa at bl e e32 e33 hTa
  unfold p_X12_goesOn
  rw [bl, u_ob, u_nn, if_pos e, e32, e33, if_neg le, p_sign' hTa e33 (by omega), u_cw, if_pos sg]
  dsimp only
  rw [u_nn, u_nn, if_pos e, e32, e33, if_neg le]
  dsimp only
  rw [nI_1, u_nn, u_ck (show (1 : Int32) &&& 1 = 1 from rfl)]
theorem go_N (hT : TxW N T w) (h : AtW N T w k 0) (hk : tp N T k < N) (h59 : ¬ T (tp N T k) = 59) : ∃ w', p_X12_goesOn G w = some (0, w') ∧ FrW w w' ∧ w'.1 0 34 = flt N T k (nI 0) := by
  have bl := blanks_W (G := G) hT h
  have hN := hT.1
  have hTa : TxW N T (w_si w 0 33 (nI (tp N T k))) := hT.s33 (by decide)
  have e : (w_si w 0 33 (nI (tp N T k))).1 0 34 = 0 := by rw [w_si_j (by decide)]; exact h.1
  have e32 : (w_si w 0 33 (nI (tp N T k))).1 0 32 = nI N := by rw [w_si_j (by decide)]; exact hT.2.1
  have e33 : (w_si w 0 33 (nI (tp N T k))).1 0 33 = nI (tp N T k) := w_si_s _ _ _ _
  have le : ¬ nI N ≤ nI (tp N T k) := nI_ge hk (by omega)
  have sg : ¬ sgn N T (tp N T k) = (59 : Int32) := fun q => h59 ((sgn_eq hT (c := 59) (by decide)).mp q).2
  have fW : FrW w (w_si w 0 33 (nI (tp N T k))) := FrW.s (Or.inl rfl)
  generalize w_si w 0 33 (nI (tp N T k)) = wa at bl e e32 e33 hTa fW
  obtain ⟨wb, d1, d2, d3, d4⟩ := p_fails' (G := G) e (nI 0) (nI (tp N T k))
  rw [if_pos rfl] at d4
  have hne : ¬ wb.1 0 34 = 0 := by rw [d4]; exact flt_ne hN (by decide)
  refine ⟨w_si wb 0 33 (wb.1 0 33 + 1), ?_, (fW.tr d2).tr (FrW.s (Or.inl rfl)), by rw [w_si_j (by decide)]; exact d4⟩
  unfold p_X12_goesOn
  rw [bl, u_ob, u_nn, if_pos e, e32, e33, if_neg le, p_sign' hTa e33 (by omega), u_cw, if_neg sg, e33, show p_X12_fails G (0 : Int32) (nI (tp N T k)) wa = some wb from d1, u_ob]
  dsimp only
  rw [u_nn, u_nn, if_neg hne]
  dsimp only
  rw [u_nn, u_ck (show (0 : Int32) &&& 1 = 0 from rfl)]
theorem wcd_c (hl20 : wl.length ≤ 20) : ∃ c, 258 ≤ c ∧ c < 320 ∧ wcd wl N T p = nI c := by
  unfold wcd
  cases hff : ff (fun k => wd N T (wl.getD k []) p) wl.length 0 with
  | some q => have := (ff_some hff).2.1; exact ⟨300 + q, by omega, by omega, rfl⟩
  | none => exact ⟨258, by decide, by decide, rfl⟩
/-- a sign of one byte -/
theorem sy_byte (hl20 : wl.length ≤ 20) (hT : TxW N T w) {c : Nat} (hc : c < 256) (c1 : isD c = false) (c2 : isL c = false) (c3 : c ≠ 60 ∧ c ≠ 62) : (syv wl N T p = nI c ↔ p < N ∧ T p = c) ∧ (p < N → T p = c → ln N T p = 1) := by
  constructor
  · unfold syv
    by_cases z : p < N
    · have hb := (hT.2.2 p z).2.1
      rw [if_pos z]
      by_cases a : isD (T p) = true
      · rw [if_pos a]
        exact ⟨fun q => absurd ((nI_eq (a := 256) (b := c) (by decide) (by omega)).mp q) (by omega), fun q => by rw [q.2, c1] at a; cases a⟩
      · rw [if_neg a]
        by_cases b : isL (T p) = true
        · rw [if_pos b]
          obtain ⟨e, e1, e2, e3⟩ := wcd_c (N := N) (T := T) (p := p) hl20
          rw [e3]
          exact ⟨fun q => absurd ((nI_eq (by omega) (by omega)).mp q) (by omega), fun q => by rw [q.2, c2] at b; cases b⟩
        · rw [if_neg b]
          by_cases d : (T p = 60 ∨ T p = 62) ∧ p + 1 < N ∧ T (p + 1) = 61
          · rw [if_pos d]
            refine ⟨fun q => ?_, fun q => by omega⟩
            by_cases e : T p = 60
            · rw [if_pos e] at q; exact absurd ((nI_eq (a := 259) (b := c) (by decide) (by omega)).mp q) (by omega)
            · rw [if_neg e] at q; exact absurd ((nI_eq (a := 260) (b := c) (by decide) (by omega)).mp q) (by omega)
          · rw [if_neg d, nI_eq (by omega) (by omega)]; exact ⟨fun q => ⟨z, q⟩, fun q => q.2⟩
    · rw [if_neg z]; exact ⟨fun q => absurd ((nI_eq (a := 257) (b := c) (by decide) (by omega)).mp q) (by omega), fun q => absurd q.1 z⟩
  · intro z y
    unfold ln
    rw [y, c1, c2, if_neg (by decide), if_neg (by decide), if_neg (fun q => by omega)]
theorem sy_end (hl20 : wl.length ≤ 20) (hT : TxW N T w) : syv wl N T p = 257 ↔ ¬ p < N := by
  unfold syv
  by_cases z : p < N
  · have hb := (hT.2.2 p z).2.1
    rw [if_pos z]
    refine ⟨fun q => ?_, fun q => absurd z q⟩
    by_cases a : isD (T p) = true
    · rw [if_pos a] at q; exact absurd q (by decide)
    · rw [if_neg a] at q
      by_cases b : isL (T p) = true
      · rw [if_pos b] at q
        obtain ⟨e, e1, e2, e3⟩ := wcd_c (N := N) (T := T) (p := p) hl20
        rw [e3] at q
        exact absurd ((nI_eq (a := e) (b := 257) (by omega) (by decide)).mp q) (by omega)
      · rw [if_neg b] at q
        by_cases d : (T p = 60 ∨ T p = 62) ∧ p + 1 < N ∧ T (p + 1) = 61
        · rw [if_pos d] at q
          by_cases e : T p = 60
          · rw [if_pos e] at q; exact absurd q (by decide)
          · rw [if_neg e] at q; exact absurd q (by decide)
        · rw [if_neg d] at q; exact absurd ((nI_eq (a := T p) (b := 257) (by omega) (by decide)).mp q) (by omega)
  · rw [if_neg z]; exact ⟨fun _ => z, fun _ => rfl⟩
theorem TD.rw (hd : TD h X t w) (e : ∀ r, 19 < r → w'.1 r = w.1 r) : TD h X t w' := by
  obtain ⟨s, n, a, b, c, g, u, q⟩ := hd
  refine ⟨?_, n, a, b, ?_, ?_, ?_, fun i hi => ?_⟩
  · unfold TDs at s ⊢; rw [e 20 (by decide)]; exact s
  · unfold TDc at c ⊢; rw [e 20 (by decide)]; exact c
  · refine ⟨by rw [e 20 (by decide)]; exact g.1, fun q hq => by unfold fr20; rw [e 20 (by decide)]; exact g.2.1 q hq, g.2.2⟩
  · refine ⟨fun i hi => by rw [e 27 (by decide), e 28 (by decide)]; exact u.1 i hi, fun i hi => by rw [e 29 (by decide), e 30 (by decide), e 31 (by decide)]; exact u.2 i hi⟩
  · have := q i hi
    unfold TDq at this ⊢
    rw [e 21 (by decide), e 22 (by decide), e 23 (by decide), e 24 (by decide), e 25 (by decide), e 26 (by decide)]; exact this
/-- what the reading of a train comes to -/
def TrE (X t : Nat) (h : AH) (w : MS) (h' : AH) (w' : MS) : Prop := RI h' (X + 1) ∧ m_i h' (X + 1) 9 = w'.1 0 34 ∧ w'.1 0 32 = 0 ∧ Fr (STn X t) h h' ∧ (∀ r, (r ≠ 0 ∧ r < 20) ∨ 31 < r → w'.1 r = w.1 r) ∧ (∀ j, j ≠ 32 → j ≠ 33 → j ≠ 34 → w'.1 0 j = w.1 0 j) ∧ FO (w'.1 0 34) ∧ (w'.1 0 34 = 0 → TD h' X t w' ∧ w'.1 20 0 = 1)
theorem tr_end (hs : SyH wl N T X h w k f) (hX : X + 122 ≤ t) (hW : FrW w w') (h34 : w'.1 0 34 = f) (hd : f = 0 → TD h X t w ∧ w.1 20 0 = 1) : TrE X t h w h (w_si w' 0 32 0) := by
  have g : FrW w' (w_si w' 0 32 0) → True := fun _ => trivial
  have e34 : (w_si w' 0 32 0).1 0 34 = f := by rw [w_si_j (by decide)]; exact h34
  have hr : ∀ r, r ≠ 0 → (w_si w' 0 32 0).1 r = w.1 r := fun r q => by rw [w_si_r q, hW.1 r q]
  obtain ⟨-, p, -, ⟨-, fo⟩, -⟩ := hs.2.2.2.2.2
  refine ⟨hs.1, by rw [e34]; exact hs.2.2.2.1.2.2.2.2, w_si_s _ _ _ _, Fr.rf, fun r q => hr r (by omega), fun j q1 q2 q3 => by rw [w_si_j q1, hW.2 j q2 q3], by rw [e34]; exact fo, fun z => ?_⟩
  rw [e34] at z
  obtain ⟨d1, d2⟩ := hd z
  refine ⟨?_, by rw [hr 20 (by decide)]; exact d2⟩
  exact (d1.f1 Fr.rf hX hW).rw (fun r q => w_si_r (by omega))
theorem TrE.pre (a : TrE X t h1 w1 h' w') (hF : Fr (STn X t) h h1) (h1r : ∀ r, (r ≠ 0 ∧ r < 20) ∨ 31 < r → w1.1 r = w.1 r) (h10 : ∀ j, j ≠ 32 → j ≠ 33 → j ≠ 34 → w1.1 0 j = w.1 0 j) : TrE X t h w h' w' := by
  obtain ⟨a1, a2, a3, a4, a5, a6, a7, a8⟩ := a
  exact ⟨a1, a2, a3, hF.tr a4, fun r q => (a5 r q).trans (h1r r q), fun j q1 q2 q3 => (a6 j q1 q2 q3).trans (h10 j q1 q2 q3), a7, a8⟩
theorem tr_loop (hG : GI G) (hX : X + 122 ≤ t) : ∀ (d n m m' : Nat) (h : AH) (w : MS) (k : Nat) (f : Int32), n + d = 41 → d < m → d < m' → 1 ≤ n → SyH wlT N T X h w k f → TrS h t → (f = 0 → TD h X t w ∧ n ≤ 40 ∧ w.1 20 0 = 1) → ∃ h' w', (∀ K, lq1 (F_X10_readTrain_30 G (X + 6) t K) m (nI n) h = K h') ∧ (cw (p_X12_goesOn G w) fun r14 w12 => lw2 (P_X12_readsAll_29 G) m' (nI n) r14 w12) = some w' ∧ TrE X t h w h' w'
  | d, n, m + 1, m' + 1, h, w, k, f, e, hm, hm', h1, hs, hT, hd => by
    obtain ⟨p1, p2, p3⟩ := rd6 hs.1
    obtain ⟨hK, hXc, hC, hTw, hW⟩ := hs.2
    have hN := hTw.1
    have e9 : m_i h (X + 1) 9 = f := hC.2.2.2.2
    have e7 : m_i h (X + 1) 7 = syv wlT N T (tp N T k) := hC.2.2.1
    have l20 : wlT.length ≤ 20 := by decide
    have stop : ∀ w2 : MS, lw2 (P_X12_readsAll_29 G) (m' + 1) (nI n) 0 w2 = some (w_si w2 0 32 0) := fun w2 => by
      show P_X12_readsAll_29 G _ _ _ _ = _
      rw [P_X12_readsAll_29, if_pos rfl, u_nn]
    by_cases z : f = 0
    rotate_left
    · obtain ⟨w2, a1, a2, a3⟩ := go_F (G := G) hTw hW z
      refine ⟨h, _, fun K => ?_, ?_, tr_end hs hX a2 a3 (fun q => absurd q z)⟩
      · show F_X10_readTrain_30 G (X + 6) t K _ _ _ = _
        unfold F_X10_readTrain_30
        by_cases y : (40 : Int32) < nI n
        · rw [if_pos y]
        · rw [if_neg y, u_ck p1, p2, u_ob, u_ck p3, e9, if_neg z]
      · rw [a1, u_cw]; exact stop w2
    · subst z
      obtain ⟨hd1, hd2, hd3⟩ := hd rfl
      have n40 : ¬ (40 : Int32) < nI n := nI_nlt (a := 40) hd2 (by omega)
      have hb : m_i h (X + 6) 1 = 0 ∨ m_i h (X + 6) 1 = 1 := by rw [hd1.1.2.2.2.2.2.2.2.2.1]; exact hd1.1.2.2.2.2.2.2.2.2.2
      by_cases y : tp N T k < N
      rotate_left
      · obtain ⟨w2, a1, a2, a3⟩ := go_E (G := G) hTw hW y
        refine ⟨h, _, fun K => ?_, ?_, tr_end hs hX a2 a3 (fun _ => ⟨hd1, hd3⟩)⟩
        · show F_X10_readTrain_30 G (X + 6) t K _ _ _ = _
          unfold F_X10_readTrain_30
          rw [if_neg n40, u_ck p1, p2, u_ob, u_ck p3, if_pos e9, u_ob, u_ck p3, e7, if_pos ((sy_end l20 hTw).mpr y)]
        · rw [a1, u_cw]; exact stop w2
      · have ne7 : ¬ syv wlT N T (tp N T k) = 257 := fun q => (sy_end l20 hTw).mp q y
        obtain ⟨sb1, sb2⟩ := sy_byte (wl := wlT) (p := tp N T k) l20 hTw (c := 59) (by decide) (by decide) (by decide) (by decide)
        by_cases x : T (tp N T k) = 59
        · have hk : k < tK N T := (tp_K hC.1).mp y
          have gY := go_Y (G := G) hTw hW y x
          have gW : FrW w (w_si (w_si w 0 33 (nI (tp N T k))) 0 33 (nI (tp N T k + 1))) := (FrW.s (Or.inl rfl)).tr (FrW.s (Or.inl rfl))
          have g34 : (w_si (w_si w 0 33 (nI (tp N T k))) 0 33 (nI (tp N T k + 1))).1 0 34 = 0 := by rw [w_si_j (by decide), w_si_j (by decide)]; exact hW.1
          have g33 : (w_si (w_si w 0 33 (nI (tp N T k))) 0 33 (nI (tp N T k + 1))).1 0 33 = nI (tp N T k + ln N T (tp N T k)) := by rw [sb2 y x]; exact w_si_s _ _ _ _
          obtain ⟨ha, a1, a2, a3⟩ := advH (G := G) hs hk gW g34 g33
          generalize w_si (w_si w 0 33 (nI (tp N T k))) 0 33 (nI (tp N T k + 1)) = wa at gY gW g34 g33 a2
          have hTa : TrS ha t := hT.fr' a3
          obtain ⟨hc, wc, kc, fc, c1, c2, c3, c4, c5, c6, c7⟩ := clause_both (n := n) hG a2 hX hTa (hd1.f1 a3 hX gW) hd2
          have hTc : TrS hc t := hTa.fr' c4
          have e' : ∃ d', d = d' + 1 := ⟨d - 1, by omega⟩
          obtain ⟨d', rfl⟩ := e'
          have tk : lrv 0 (X + 1) (s_X8_takeByte G (59 : Int32)) h = some ha := by
            have : s_X8_takeByte G (59 : Int32) = fun wq => if (wq.1 0 7) = (59 : Int32) then (ob (s_X8_advance G wq) fun w2 => some w2) else ob (s_X8_fail G (0 : Int32) wq) fun w4 => some w4 := rfl
            obtain ⟨wr1, b1, b2, b3, b4⟩ := adv_C (G := G) hN hK hC hk
            have eq1 := lrv_e (P := s_X8_advance G) hs.1 b1
            rw [eq1] at a1
            refine (lrv_e hs.1 ?_).trans a1
            unfold s_X8_takeByte
            rw [if_pos (show (rs_of h (X + 1)).1 0 7 = (59 : Int32) from hC.2.2.1.trans (sb1.mpr ⟨y, x⟩)), b1, u_ob]
          obtain ⟨hf, wf, f1, f2, f3⟩ := tr_loop hG hX d' (n + 1) m m' hc wc kc fc (by omega) (by omega) (by omega) (by omega) c3 hTc (fun q => ⟨(c7 q).1, by have := (c7 q).2.1; omega, (c7 q).2.2 (Or.inl (by rw [gW.1 20 (by decide)]; exact hd3))⟩)
          have Fa : Fr (STn X t) h ha := Fr.tn1 a3
          refine ⟨hf, wf, fun K => ?_, ?_, f3.pre (Fa.tr c4) (fun r q => (c5 r q).trans (gW.1 r (by omega))) (fun j q1 q2 q3 => (c6 j q2 q3).trans (gW.2 j q2 q3))⟩
          · show F_X10_readTrain_30 G (X + 6) t K _ _ _ = _
            unfold F_X10_readTrain_30
            rw [if_neg n40, u_ck p1, p2, u_ob, u_ck p3, if_pos e9, u_ob, u_ck p3, e7, if_neg ne7, u_ob, u_ck p3, tk, u_ob, u_ck (show m_t ha (X + 6) = .inl 10 by rw [a3.1]; exact p1), c1, u_ob, nI_1, u_nn]
            exact f1 K
          · rw [gY, u_cw]
            show P_X12_readsAll_29 G _ _ _ _ = _
            unfold P_X12_readsAll_29
            rw [if_neg n10, c2, u_ob, nI_1, u_nn]
            exact f2
        · obtain ⟨w2, g1, g2, g3⟩ := go_N (G := G) hTw hW y x
          obtain ⟨wr1, b1, b2, b3, b4⟩ := q_fail (G := G) hN hK hC (nI 0)
          obtain ⟨w3, d1, d2, d3, d4⟩ := p_fails' (G := G) hW.1 (nI 0) (nI (tp N T k))
          obtain ⟨-, pp, pp1, ⟨pp2, -⟩, -⟩ := hW
          rw [if_pos rfl] at b4 d4
          have hne := flt_ne (N := N) (T := T) (k := k) (c := 0) hN (by decide)
          have hs1 : SyH wlT N T X (rh h (X + 1) wr1) w3 k (flt N T k (nI 0)) := hs.rh b2 ⟨b3, tx_C hXc b2, b4, d2.tx hTw, d4, pp, by rw [d3]; exact pp1, ⟨pp2, flt_FO hN (by decide)⟩, fun q => absurd q hne⟩
          have F1 := (rh_f b2).1
          have tk : lrv 0 (X + 1) (s_X8_takeByte G (59 : Int32)) h = some (rh h (X + 1) wr1) := lrv_e hs.1 (by
            unfold s_X8_takeByte
            rw [if_neg (show ¬ (rs_of h (X + 1)).1 0 7 = (59 : Int32) from fun q => x (sb1.mp (hC.2.2.1.symm.trans q)).2), show s_X8_fail G (0 : Int32) (rs_of h (X + 1)) = some wr1 from b1, u_ob])
          have hb1 : m_i (rh h (X + 1) wr1) (X + 6) 1 = 0 ∨ m_i (rh h (X + 1) wr1) (X + 6) 1 = 1 := by rw [(F1.2.2.2 (X + 6) (by omega)).1]; exact hb
          obtain ⟨hc, c1, c2, c3⟩ := cl_F (G := G) hs1 hne (hT.fr' F1) hb1 (nI n)
          obtain ⟨q1, q2, q3⟩ := rd6 c2.1
          have e9c : m_i hc (X + 1) 9 = flt N T k (nI 0) := c2.2.2.2.1.2.2.2.2
          have hd' : ∃ d', d = d' + 1 := ⟨d - 1, by omega⟩
          obtain ⟨d', rfl⟩ := hd'
          obtain ⟨m, rfl⟩ : ∃ q, m = q + 1 := ⟨m - 1, by omega⟩
          refine ⟨hc, w_si w2 0 32 0, fun K => ?_, ?_, ?_⟩
          · show F_X10_readTrain_30 G (X + 6) t K _ _ _ = _
            unfold F_X10_readTrain_30
            rw [if_neg n40, u_ck p1, p2, u_ob, u_ck p3, if_pos e9, u_ob, u_ck p3, e7, if_neg ne7, u_ob, u_ck p3, tk, u_ob, u_ck (show m_t (rh h (X + 1) wr1) (X + 6) = .inl 10 by rw [F1.1]; exact p1), c1, u_ob, nI_1, u_nn]
            show F_X10_readTrain_30 G (X + 6) t K _ _ _ = _
            unfold F_X10_readTrain_30
            by_cases y : (40 : Int32) < nI (n + 1)
            · rw [if_pos y]
            · rw [if_neg y, u_ck q1, q2, u_ob, u_ck q3, e9c, if_neg hne]
          · rw [g1, u_cw]; exact stop w2
          · have e34 : (w_si w2 0 32 0).1 0 34 = flt N T k (nI 0) := by rw [w_si_j (by decide)]; exact g3
            exact ⟨c2.1, by rw [e34]; exact e9c, w_si_s _ _ _ _, Fr.tn1 (F1.tr c3), fun r q => by rw [w_si_r (by omega), g2.1 r (by omega)], fun j r1 r2 r3 => by rw [w_si_j r1, g2.2 j r2 r3], by rw [e34]; exact flt_FO hN (by decide), fun q => absurd (e34.symm.trans q) hne⟩
end
