/-! PURE 99n: the clauses of a train, one after another. -/
section
variable {G : GG} {X t N k n j p : Nat} {T : Nat → Nat} {h h' h1 h2 : AH} {w w' w1 w2 wr wr' : MS} {wl : List (List Nat)} {f : Int32}
/-- after a fault the class reads no clause -/
theorem cl_F (hs : SyH wl N T X h w k f) (hf : f ≠ 0) (hT : TrS h t) (hb : m_i h (X + 6) 1 = 0 ∨ m_i h (X + 6) 1 = 1) (v : Int32) : ∃ h', f_X10_readClause G (X + 6) t v h = some h' ∧ SyH wl N T X h' w k f ∧ Fr (fun a => a = X + 1) h h' := by
  obtain ⟨p1, p2, p3⟩ := rd6 hs.1
  obtain ⟨hK, hXc, hC, hTw, hW⟩ := hs.2
  have e9 : m_i h (X + 1) 9 = f := hC.2.2.2.2
  have cl : ∀ c : Int32, lrv 0 (X + 1) (s_X8_fail G c) h = some (rh h (X + 1) (rs_of h (X + 1))) := fun c => lrv_e hs.1 (by unfold s_X8_fail; rw [hC.2.2.2.2, if_neg hf])
  have hF : FrC (rs_of h (X + 1)) (rs_of h (X + 1)) := FrC.rf
  have hF1 := (rh_f hF).1
  have hs1 : SyH wl N T X (rh h (X + 1) (rs_of h (X + 1))) w k f := hs.rh hF hs.2
  have z9 : ¬ m_i (rh h (X + 1) (rs_of h (X + 1))) (X + 1) 9 = 0 := by
    rw [show m_i (rh h (X + 1) (rs_of h (X + 1))) (X + 1) 9 = f from hs1.2.2.2.1.2.2.2.2]; exact hf
  have z9' : ¬ m_i h (X + 1) 9 = 0 := by rw [e9]; exact hf
  obtain ⟨q1, q2, q3⟩ := rd6 hs1.1
  generalize hh : rh h (X + 1) (rs_of h (X + 1)) = ha at cl hF1 hs1 z9 q1 q2 q3
  have hb' : (m_i h (X + 6) 1) &&& 1 = m_i h (X + 6) 1 := by rcases hb with z | z <;> rw [z] <;> rfl
  have pl : ∀ x, ∃ r, f_X10_isOutOfPlace G (X + 6) t x v h = some (r, h) := fun x => by
    unfold f_X10_isOutOfPlace
    simp only [u_ck p1, u_ck hT.1, u_ck hb']
    repeat' split
    all_goals exact ⟨_, rfl⟩
  unfold f_X10_readClause
  rw [u_ck p1, p2, u_ob, u_ck p3, u_nn, u_nn]
  by_cases z : (300 : Int32) ≤ m_i h (X + 1) 7
  · rw [if_pos z, u_nn]
    by_cases y : v = 40
    · rw [if_pos y]; dsimp only
      rw [u_ck p1, p2, u_ob, u_ck p3, cl, u_ob, u_ck q1, q2, u_ob, u_ck q3, if_neg z9]
      exact ⟨_, rfl, hs1, hF1⟩
    · obtain ⟨r, hr⟩ := pl (m_i h (X + 1) 7)
      rw [if_neg y, hr, u_cb]
      by_cases x : r = 0
      · rw [if_pos x]; dsimp only
        rw [u_ck p1, p2, u_ob, u_ck p3, if_neg z9']
        exact ⟨_, rfl, hs, Fr.rf⟩
      · rw [if_neg x]; dsimp only
        rw [u_ck p1, p2, u_ob, u_ck p3, cl, u_ob, u_ck q1, q2, u_ob, u_ck q3, if_neg z9]
        exact ⟨_, rfl, hs1, hF1⟩
  · rw [if_neg z, u_ob, u_ck p3, cl, u_ob]; dsimp only
    rw [u_ck q1, q2, u_ob, u_ck q3, if_neg z9]
    exact ⟨_, rfl, hs1, hF1⟩
theorem go_F (hT : TxW N T w) (h : AtW N T w k f) (hf : f ≠ 0) : ∃ w', p_X12_goesOn G w = some (0, w') ∧ FrW w w' ∧ w'.1 0 34 = f := by
  obtain ⟨wa, a1, a2, a3⟩ := blanks_F (G := G) hT h hf
  have e : ¬ wa.1 0 34 = 0 := by rw [a3.1]; exact hf
  refine ⟨w_si wa 0 33 (wa.1 0 33 + 1), ?_, a2.tr (FrW.s (Or.inl rfl)), by rw [w_si_j (by decide)]; exact a3.1⟩
  unfold p_X12_goesOn
  rw [a1, u_ob, u_nn, if_neg e]
  dsimp only
  rw [u_nn, u_nn, if_neg e]
  dsimp only
  rw [u_nn, u_ck (show (0 : Int32) &&& 1 = 0 from rfl)]
theorem go_E (hT : TxW N T w) (h : AtW N T w k 0) (hk : ¬ tp N T k < N) : ∃ w', p_X12_goesOn G w = some (0, w') ∧ FrW w w' ∧ w'.1 0 34 = 0 := by
  have bl := blanks_W (G := G) hT h
  have tl := tp_le (N := N) (T := T) k
  have hN := hT.1
  have e : (w_si w 0 33 (nI (tp N T k))).1 0 34 = 0 := by rw [w_si_j (by decide)]; exact h.1
  have e32 : (w_si w 0 33 (nI (tp N T k))).1 0 32 = nI N := by rw [w_si_j (by decide)]; exact hT.2.1
  have e33 : (w_si w 0 33 (nI (tp N T k))).1 0 33 = nI (tp N T k) := w_si_s _ _ _ _
  have le : nI N ≤ nI (tp N T k) := nI_le (by omega) (by omega)
  have fW : FrW w (w_si w 0 33 (nI (tp N T k))) := FrW.s (Or.inl rfl)
  generalize w_si w 0 33 (nI (tp N T k)) = wa at bl e e32 e33 fW
  refine ⟨w_si wa 0 33 (nI (tp N T k) + 1), ?_, fW.tr (FrW.s (Or.inl rfl)), by rw [w_si_j (by decide)]; exact e⟩
  unfold p_X12_goesOn
  rw [bl, u_ob, u_nn, if_pos e, e32, e33, if_pos le]
  dsimp only
  rw [u_nn, u_nn, if_pos e, e32, e33, if_pos le]
  dsimp only
  rw [u_nn, u_ck (show (0 : Int32) &&& 1 = 0 from rfl)]
theorem go_Y (hT : TxW N T w) (h : AtW N T w k 0) (hk : tp N T k < N) (h59 : T (tp N T k) = 59) : p_X12_goesOn G w = some (1, w_si (w_si w 0 33 (nI (tp N T k))) 0 33 (nI (tp N T k + 1))) := by
  have bl := blanks_W (G := G) hT h
  have hN := hT.1
  have hTa : TxW N T (w_si w 0 33 (nI (tp N T k))) := hT.s33 (by decide)
  have e : (w_si w 0 33 (nI (tp N T k))).1 0 34 = 0 := by rw [w_si_j (by decide)]; exact h.1
  have e32 : (w_si w 0 33 (nI (tp N T k))).1 0 32 = nI N := by rw [w_si_j (by decide)]; exact hT.2.1
  have e33 : (w_si w 0 33 (nI (tp N T k))).1 0 33 = nI (tp N T k) := w_si_s _ _ _ _
  have le : ¬ nI N ≤ nI (tp N T k) := nI_ge hk (by omega)
  have sg : sgn N T (tp N T k) = (59 : Int32) := by unfold sgn; rw [if_pos hk, h59]; rfl
  generalize w_si w 0 33 (nI (tp N T k)) = wa at bl e e32 e33 hTa
  unfold p_X12_goesOn
  rw [bl, u_ob, u_nn, if_pos e, e32, e33, if_neg le, p_sign' hTa e33 (by omega), u_cw, if_pos sg]
  dsimp only
  rw [u_nn, u_nn, if_pos e, e32, e33, if_neg le]
  dsimp only
  rw [nI_1, u_nn, u_ck (show (1 : Int32) &&& 1 = 1 from rfl)]
theorem go_N (hT : TxW N T w) (h : AtW N T w k 0) (hk : tp N T k < N) (h59 : ¬ T (tp N T k) = 59) : ∃ w', p_X12_goesOn G w = some (0, w') ∧ FrW w w' ∧ w'.1 0 34 = flt N T k (nI 0) := by
  have bl := blanks_W (G := G) hT h
  have hN := hT.1
  have hTa : TxW N T (w_si w 0 33 (nI (tp N T k))) := hT.s33 (by decide)
  have e : (w_si w 0 33 (nI (tp N T k))).1 0 34 = 0 := by rw [w_si_j (by decide)]; exact h.1
  have e32 : (w_si w 0 33 (nI (tp N T k))).1 0 32 = nI N := by rw [w_si_j (by decide)]; exact hT.2.1
  have e33 : (w_si w 0 33 (nI (tp N T k))).1 0 33 = nI (tp N T k) := w_si_s _ _ _ _
  have le : ¬ nI N ≤ nI (tp N T k) := nI_ge hk (by omega)
  have sg : ¬ sgn N T (tp N T k) = (59 : Int32) := fun q => h59 ((sgn_eq hT (c := 59) (by decide)).mp q).2
  have fW : FrW w (w_si w 0 33 (nI (tp N T k))) := FrW.s (Or.inl rfl)
  generalize w_si w 0 33 (nI (tp N T k)) = wa at bl e e32 e33 hTa fW
  obtain ⟨wb, d1, d2, d3, d4⟩ := p_fails' (G := G) e (nI 0) (nI (tp N T k))
  rw [if_pos rfl] at d4
  have hne : ¬ wb.1 0 34 = 0 := by rw [d4]; exact flt_ne hN (by decide)
  refine ⟨w_si wb 0 33 (wb.1 0 33 + 1), ?_, (fW.tr d2).tr (FrW.s (Or.inl rfl)), by rw [w_si_j (by decide)]; exact d4⟩
  unfold p_X12_goesOn
  rw [bl, u_ob, u_nn, if_pos e, e32, e33, if_neg le, p_sign' hTa e33 (by omega), u_cw, if_neg sg, e33, show p_X12_fails G (0 : Int32) (nI (tp N T k)) wa = some wb from d1, u_ob]
  dsimp only
  rw [u_nn, u_nn, if_neg hne]
  dsimp only
  rw [u_nn, u_ck (show (0 : Int32) &&& 1 = 0 from rfl)]
theorem wcd_c (hl20 : wl.length ≤ 20) : ∃ c, 258 ≤ c ∧ c < 320 ∧ wcd wl N T p = nI c := by
  unfold wcd
  cases hff : ff (fun k => wd N T (wl.getD k []) p) wl.length 0 with
  | some q => have := (ff_some hff).2.1; exact ⟨300 + q, by omega, by omega, rfl⟩
  | none => exact ⟨258, by decide, by decide, rfl⟩
/-- a sign of one byte -/
theorem sy_byte (hl20 : wl.length ≤ 20) (hT : TxW N T w) {c : Nat} (hc : c < 256) (c1 : isD c = false) (c2 : isL c = false) (c3 : c ≠ 60 ∧ c ≠ 62) : (syv wl N T p = nI c ↔ p < N ∧ T p = c) ∧ (p < N → T p = c → ln N T p = 1) := by
  constructor
  · unfold syv
    by_cases z : p < N
    · have hb := (hT.2.2 p z).2.1
      rw [if_pos z]
      by_cases a : isD (T p) = true
      · rw [if_pos a]
        exact ⟨fun q => absurd ((nI_eq (a := 256) (b := c) (by decide) (by omega)).mp q) (by omega), fun q => by rw [q.2, c1] at a; cases a⟩
      · rw [if_neg a]
        by_cases b : isL (T p) = true
        · rw [if_pos b]
          obtain ⟨e, e1, e2, e3⟩ := wcd_c (N := N) (T := T) (p := p) hl20
          rw [e3]
          exact ⟨fun q => absurd ((nI_eq (by omega) (by omega)).mp q) (by omega), fun q => by rw [q.2, c2] at b; cases b⟩
        · rw [if_neg b]
          by_cases d : (T p = 60 ∨ T p = 62) ∧ p + 1 < N ∧ T (p + 1) = 61
          · rw [if_pos d]
            refine ⟨fun q => ?_, fun q => by omega⟩
            by_cases e : T p = 60
            · rw [if_pos e] at q; exact absurd ((nI_eq (a := 259) (b := c) (by decide) (by omega)).mp q) (by omega)
            · rw [if_neg e] at q; exact absurd ((nI_eq (a := 260) (b := c) (by decide) (by omega)).mp q) (by omega)
          · rw [if_neg d, nI_eq (by omega) (by omega)]; exact ⟨fun q => ⟨z, q⟩, fun q => q.2⟩
    · rw [if_neg z]; exact ⟨fun q => absurd ((nI_eq (a := 257) (b := c) (by decide) (by omega)).mp q) (by omega), fun q => absurd q.1 z⟩
  · intro z y
    unfold ln
    rw [y, c1, c2, if_neg (by decide), if_neg (by decide), if_neg (fun q => by omega)]
theorem sy_end (hl20 : wl.length ≤ 20) (hT : TxW N T w) : syv wl N T p = 257 ↔ ¬ p < N := by
  unfold syv
  by_cases z : p < N
  · have hb := (hT.2.2 p z).2.1
    rw [if_pos z]
    refine ⟨fun q => ?_, fun q => absurd z q⟩
    by_cases a : isD (T p) = true
    · rw [if_pos a] at q; exact absurd q (by decide)
    · rw [if_neg a] at q
      by_cases b : isL (T p) = true
      · rw [if_pos b] at q
        obtain ⟨e, e1, e2, e3⟩ := wcd_c (N := N) (T := T) (p := p) hl20
        rw [e3] at q
        exact absurd ((nI_eq (a := e) (b := 257) (by omega) (by decide)).mp q) (by omega)
      · rw [if_neg b] at q
        by_cases d : (T p = 60 ∨ T p = 62) ∧ p + 1 < N ∧ T (p + 1) = 61
        · rw [if_pos d] at q
          by_cases e : T p = 60
          · rw [if_pos e] at q; exact absurd q (by decide)
          · rw [if_neg e] at q; exact absurd q (by decide)
        · rw [if_neg d] at q; exact absurd ((nI_eq (a := T p) (b := 257) (by omega) (by decide)).mp q) (by omega)
  · rw [if_neg z]; exact ⟨fun _ => z, fun _ => rfl⟩
/-- what the reading of a train comes to -/
def TrE (N : Nat) (X t : Nat) (h : AH) (w : MS) (h' : AH) (w' : MS) : Prop := RI h' (X + 1) ∧ m_i h' (X + 1) 9 = w'.1 0 34 ∧ w'.1 0 32 = 0 ∧ Fr (STn X t) h h' ∧ (∀ r, (r ≠ 0 ∧ r < 20) ∨ 31 < r → w'.1 r = w.1 r) ∧ (∀ j, j ≠ 32 → j ≠ 33 → j ≠ 34 → w'.1 0 j = w.1 0 j) ∧ (w'.1 0 34 = 0 ∨ ∃ c, 0 < c ∧ c < 4000 ∧ w'.1 0 34 = nI c) ∧ (w'.1 0 34 = 0 → TD h' X t w' ∧ w'.1 20 0 = 1)
end
