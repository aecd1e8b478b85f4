/-! PURE 93: rests, the call. -/
section
variable {G : GG} {own : Nat → Nat} {R X c t U : Nat} {h h0 h1 h2 h' : AH} {w w0 w' w1 w2 w3 : MS} {v v' v0 : VV} {e : Nat → Bool}
def cF (e : Nat → Bool) (m : Nat) (a : Int32) : Int32 := if e m = true then a + 1 else a
def gF (e : Nat → Bool) (m : Nat) (a : Int32 × Int32) : Int32 × Int32 := if e m = true then (a.1 + 1, if a.1 = 0 then nI m else a.2) else a
theorem gF_1 : ∀ (d m : Nat) (a : Int32 × Int32), (fs (gF e) d m a).1 = fs (cF e) d m a.1
  | 0, _, _ => rfl
  | d + 1, m, a => by
    show (fs (gF e) d (m + 1) (gF e m a)).1 = fs (cF e) d (m + 1) (cF e m a.1)
    rw [gF_1 d]
    unfold gF cF
    by_cases z : e m = true
    · rw [if_pos z, if_pos z]
    · rw [if_neg z, if_neg z]
theorem gF_pos {b : Int32} : ∀ (d m a : Nat), 0 < a → a + d ≤ 100 → ∃ a', 0 < a' ∧ a' ≤ 100 ∧ fs (gF e) d m (nI a, b) = (nI a', b)
  | 0, m, a, h1, h2 => ⟨a, h1, by omega, rfl⟩
  | d + 1, m, a, h1, h2 => by
    show ∃ a', 0 < a' ∧ a' ≤ 100 ∧ fs (gF e) d (m + 1) (gF e m (nI a, b)) = (nI a', b)
    have n0 : ¬ nI a = 0 := fun z => by rw [I_eq, nI_toInt (by omega)] at z; have i0 : (0 : Int32).toInt = 0 := rfl; omega
    by_cases z : e m = true
    · rw [show gF e m (nI a, b) = (nI (a + 1), b) by unfold gF; rw [if_pos z, if_neg n0, nI_1]]
      exact gF_pos d (m + 1) (a + 1) (by omega) (by omega)
    · rw [show gF e m (nI a, b) = (nI a, b) by unfold gF; rw [if_neg z]]
      exact gF_pos d (m + 1) a h1 (by omega)
theorem gF_none {b : Int32} : ∀ (d m : Nat), ff e d m = none → fs (gF e) d m (0, b) = (0, b)
  | 0, _, _ => rfl
  | d + 1, m, h => by
    unfold ff at h
    by_cases z : e m = true
    · rw [if_pos z] at h; cases h
    · rw [if_neg z] at h
      show fs (gF e) d (m + 1) (gF e m (0, b)) = _
      rw [show gF e m (0, b) = (0, b) by unfold gF; rw [if_neg z]]
      exact gF_none d (m + 1) h
theorem gF_some {b : Int32} : ∀ (d m j : Nat), d ≤ 99 → ff e d m = some j → ∃ a', 0 < a' ∧ a' ≤ 100 ∧ fs (gF e) d m (0, b) = (nI a', nI j)
  | 0, _, _, _, h => by cases h
  | d + 1, m, j, hd, h => by
    unfold ff at h
    show ∃ a', 0 < a' ∧ a' ≤ 100 ∧ fs (gF e) d (m + 1) (gF e m (0, b)) = _
    by_cases z : e m = true
    · rw [if_pos z] at h; cases h
      rw [show gF e m (0, b) = (nI 1, nI m) by unfold gF; rw [if_pos z, if_pos rfl]; rfl]
      exact gF_pos d (m + 1) 1 (by decide) (by omega)
    · rw [if_neg z] at h
      rw [show gF e m (0, b) = (0, b) by unfold gF; rw [if_neg z]]
      exact gF_some d (m + 1) j (by omega) h
def RsH (h : AH) (X : Nat) : Prop := m_t h X = .inl 11 ∧ m_r h X 11 = some (X + 58) ∧ m_t h (X + 58) = .inr (.int, 81)
theorem e01 {b : Bool} : (if b = true then (1 : Int32) else 0) = 0 ↔ b = false := by cases b <;> simp
theorem c_rest_cnt (hH : RsH h X) {P : Nat} (hP : P < 4) {K1 K2 : Int32 → AH → Option (Int32 × AH)} : lq2 (F_X11_rests_102 G X 0 (nI P) (nI (3 ^ P)) K1 K2) bN 0 (nI 0) h = K1 (fs (cF (isR (m_i h (X + 58)) P)) (3 ^ P) 0 0) h := by
  have h27 := p3_le P hP
  refine lq2_fs (N := 3 ^ P) (cF (isR (m_i h (X + 58)) P)) (fun a => K1 a h) ?_ ?_ (d := 3 ^ P) (Nat.zero_add _) (bN_gt (by omega))
  · intro self a
    rw [F_X11_rests_102, if_pos (nI_le (by omega) (by omega))]
  · intro self a k hk
    rw [F_X11_rests_102, if_neg (nI_ge (by omega) (by omega)), u_ck hH.1, c_isResting hH.1 hH.2.1 hH.2.2 hP hk, u_cb, u_nn]
    unfold cF
    cases z : isR (m_i h (X + 58)) P k
    · rw [if_pos (e01.mpr rfl), if_neg (by decide)]; rfl
    · rw [if_neg (fun q => absurd (e01.mp q) (by decide)), if_pos (by decide), if_pos rfl]; rfl
theorem c_rest_first (hH : RsH h X) {P : Nat} (hP : P < 4) {s : Int32} (hs : ¬ s ≤ 0) {K1 K2 : Int32 → AH → Option (Int32 × AH)} : ∀ (d m n : Nat), m + d = 3 ^ P → d < n → lq2 (F_X11_rests_102 G X s (nI P) (nI (3 ^ P)) K1 K2) n 0 (nI m) h = match ff (isR (m_i h (X + 58)) P) d m with | some j => K2 (nI j) h | none => K1 0 h
  | 0, m, n + 1, e, _ => by
    have h27 := p3_le P hP
    show F_X11_rests_102 G X s (nI P) (nI (3 ^ P)) K1 K2 _ _ _ _ = _
    rw [F_X11_rests_102, if_pos (nI_le (by omega) (by omega))]; rfl
  | d + 1, m, n + 1, e, hn => by
    have h27 := p3_le P hP
    show F_X11_rests_102 G X s (nI P) (nI (3 ^ P)) K1 K2 _ _ _ _ = _
    rw [F_X11_rests_102, if_neg (nI_ge (by omega) (by omega)), u_ck hH.1, c_isResting hH.1 hH.2.1 hH.2.2 hP (by omega), u_cb, u_nn]
    unfold ff
    cases z : isR (m_i h (X + 58)) P m
    · rw [if_pos (e01.mpr rfl), if_neg (by decide)]
      show lq2 (F_X11_rests_102 G X s (nI P) (nI (3 ^ P)) K1 K2) n 0 (nI m + 1) h = _
      rw [nI_1]
      exact c_rest_first hH hP hs d (m + 1) n (by omega) (by omega)
    · rw [if_neg (fun q => absurd (e01.mp q) (by decide)), if_neg hs, if_pos rfl]
theorem p_rest_all {P : Nat} (hP : P < 4) {s : Int32} {K : Int32 → Int32 → MS → Option (Int32 × MS)} : lw3 (P_X12_rests_101 G s (nI P) (nI (3 ^ P)) K) bN 0 (-1) (nI 0) w = K (fs (gF (isR (w.1 72) P)) (3 ^ P) 0 (0, -1)).1 (fs (gF (isR (w.1 72) P)) (3 ^ P) 0 (0, -1)).2 w := by
  have h27 := p3_le P hP
  refine lw3_fs (N := 3 ^ P) (gF (isR (w.1 72) P)) (fun a => K a.1 a.2 w) ?_ ?_ (d := 3 ^ P) (Nat.zero_add _) (bN_gt (by omega))
  · intro self a b
    rw [P_X12_rests_101, if_pos (nI_le (by omega) (by omega))]
  · intro self a b k hk
    rw [P_X12_rests_101, if_neg (nI_ge (by omega) (by omega)), p_isRest hP hk, u_cw, u_nn]
    unfold gF
    cases z : isR (w.1 72) P k
    · rw [if_pos (e01.mpr rfl), if_neg (by decide)]; rfl
    · rw [if_neg (fun q => absurd (e01.mp q) (by decide)), if_pos rfl, u_nn]
      by_cases y : a = 0
      · rw [if_pos y, if_pos y]; rfl
      · rw [if_neg y, if_neg y]; rfl
theorem pin112 (x : Int32) : p_X12_in G x.toInt64 (1 : Int64) (12 : Int64) w = some (if 1 ≤ x ∧ x ≤ 12 then 1 else 0, w) := p_in_i G x 1 12 w
theorem fs_cong1 {α : Type} {f g : Nat → α → α} (d : Nat) (a : α) (e : ∀ j, j < d → ∀ x, f j x = g j x) : fs f d 0 a = fs g d 0 a := fs_cong (fun j _ hj x => e j (by omega) x)
theorem call_rests (x y z : Int32) : Call X (f_X11_rests G X x y z) (p_X12_rests G x y z) := by
  intro h w ⟨own, R, hR⟩
  obtain ⟨U, c, t, hc⟩ := hR.cur
  have hB := hc.1
  have hSt := hc.2.1
  have hS := hSt.1
  have hr := hR.2.2.1
  have pin3 : ∀ w : MS, p_X12_in G z.toInt64 (0 : Int64) (3 : Int64) w = some (if 0 ≤ z ∧ z ≤ 3 then 1 else 0, w) := fun w => p_in_i G z 0 3 w
  unfold f_X11_rests p_X12_rests
  rw [u_ck hB.1.1, c_hasLaw hB.1.1 hr.2.2.1 hr.1, u_cb, p_isTrain hS, u_cw]
  by_cases h2 : 0 ≤ x ∧ x ≤ nI R - 1
  rotate_left
  · rw [if_neg h2, if_pos rfl]
    rcases told01 hS with q | q
    · rw [q, if_pos rfl]; exact stay hR _
    · rw [q, if_neg n10, p_isRule hr.2.1, u_cw, if_neg h2, if_pos rfl]; exact stay hR _
  rw [if_pos h2, if_neg n10, u_ck hB.1.1, c_canTry hB hS, u_cb, rng_ge (N := 3)]
  rcases told01 hS with q | told
  · rw [if_neg (show ¬ (w.1 1 0 = 1 ∧ (1 ≤ y ∧ y ≤ 12) ∧ y ≤ 240 - w.1 1 10) from fun e => absurd (q.symm.trans e.1) (by decide)), if_pos rfl, q, if_pos rfl]; exact stay hR _
  rw [show (if w.1 1 0 = 0 then (some ((-200 : Int32), w) : Option (Int32 × MS)) else _) = _ from if_neg (by rw [told]; decide), p_isRule hr.2.1, u_cw, if_pos h2, if_neg n10, pin112, u_cw]
  by_cases h3 : 1 ≤ y ∧ y ≤ 12
  rotate_left
  · rw [if_neg (show ¬ (w.1 1 0 = 1 ∧ (1 ≤ y ∧ y ≤ 12) ∧ y ≤ 240 - w.1 1 10) from fun e => h3 e.2.1), if_pos rfl, if_neg h3, if_pos rfl]; exact stay hR _
  rw [if_pos h3, if_neg n10, p_milesLeft, u_cw]
  by_cases h4 : y ≤ 240 - w.1 1 10
  rotate_left
  · rw [if_neg (show ¬ (w.1 1 0 = 1 ∧ (1 ≤ y ∧ y ≤ 12) ∧ y ≤ 240 - w.1 1 10) from fun e => h4 e.2.2), if_pos rfl, if_pos (show 240 - w.1 1 10 < y by rw [I_le] at h4; rw [I_lt]; omega)]; exact stay hR _
  rw [if_pos (show (w.1 1 0 = 1 ∧ (1 ≤ y ∧ y ≤ 12) ∧ y ≤ 240 - w.1 1 10) from ⟨told, h3, h4⟩), if_neg n10, if_neg (show ¬ 240 - w.1 1 10 < y by rw [I_le] at h4; rw [I_lt]; omega), pin3, u_cw]
  by_cases h5 : 0 ≤ z ∧ z ≤ 3
  rotate_left
  · rw [if_neg h5, if_neg h5, if_pos rfl]; exact stay hR _
  rw [if_pos h5, if_pos h5, if_neg n10, u_ck hB.1.1, hB.1.2.1, u_ob, u_ck hB.1.2.2.1, hB.1.2.2.2.1, u_ob, u_ck hB.1.2.2.2.2.1, hB.1.2.2.2.2.2.1, u_ob, u_ck hB.1.2.2.2.2.2.2]
  obtain ⟨hC, hCa⟩ := hc.2.2.1.cab told
  obtain ⟨r, hr2, rfl⟩ := law_in hr.1 h2
  obtain ⟨n, rfl, hn1, hn2⟩ := nat_of (x := y) (L := 240 - w.1 1 10) ⟨by have := h3.1; rw [I_le] at this ⊢; have i1 : (1 : Int32).toInt = 1 := rfl; have i0 : (0 : Int32).toInt = 0 := rfl; omega, h4⟩
  have hleft := left_i hS
  have hm0 := (st_mile hS).1
  have hN8 := st_N8 hS
  obtain ⟨s, rfl, hs1, hs2⟩ := nat_of (x := z) (L := 3) h5
  have hs3 : s ≤ 3 := by have i3 : (3 : Int32).toInt = 3 := rfl; omega
  obtain ⟨P, hP, hPN, eP1, eP2⟩ : ∃ P, P < 4 ∧ P ≤ sN w.1 ∧ (if nI (sN w.1) < 3 then nI (sN w.1) else 3) = nI P ∧ (if (3 : Int32) ≤ nI (sN w.1) then (3 : Int32) else nI (sN w.1)) = nI P := by
    have i3 : (3 : Int32).toInt = 3 := rfl
    have iN := nI_toInt (n := sN w.1) (by omega)
    by_cases q : sN w.1 < 3
    · exact ⟨sN w.1, by omega, by omega, if_pos (by rw [I_lt]; omega), if_neg (by rw [I_le]; omega)⟩
    · exact ⟨3, by omega, by omega, by rw [if_neg (by rw [I_lt]; omega)]; rfl, by rw [if_pos (by rw [I_le]; omega)]; rfl⟩
  have h27 := p3_le P hP
  obtain ⟨h3', w3', b1, b2, b3, b4, b5⟩ := rows_both (G := G) hR told (r := r) (n := n) (P := P) hr2 hP hPN (by omega) (by omega) (3 ^ P) 0 h w (Nat.zero_add _) FrQ.rf WQ.rf (fun m j q1 _ => by omega)
  have hR3 := hR.frq b3
  have hH : RsH h3' X := ⟨hR3.1.1.1, hR3.1.1.2.2.2.2.2.2.2.2.2.2.2, hR3.1.2.2.1.2.2⟩
  have eis : ∀ m, m < 3 ^ P → isR (m_i h3' (X + 58)) P m = isR (w3'.1 72) P m := fun m hm => isR_cong hP hm (fun m j q1 q2 => b5 m j q1 q2)
  have eff : ff (isR (m_i h3' (X + 58)) P) (3 ^ P) 0 = ff (isR (w3'.1 72) P) (3 ^ P) 0 := ff_cong (fun j _ hj => eis j (by omega))
  have ecF : fs (cF (isR (m_i h3' (X + 58)) P)) (3 ^ P) 0 0 = fs (cF (isR (w3'.1 72) P)) (3 ^ P) 0 0 := fs_cong1 _ _ (fun j hj x => by unfold cF; rw [eis j hj])
  have fin : ∀ (a : Int32) (F : Option (Int32 × AH)) (Q : Option (Int32 × MS)), (F = some (a, h3') ∨ F = some (a, h)) → Q = some (a, w3') → ∃ r h' w', F = some (r, h') ∧ Q = some (r, w') ∧ Rel h' X w' ∧ Kp X h h' := fun a F Q q1 q2 => by
    rcases q1 with q1 | q1
    · exact ⟨a, h3', w3', q1, q2, ⟨own, R, hR3.wq b4⟩, b3.kp hR⟩
    · exact ⟨a, h, w3', q1, q2, ⟨own, R, hR.wq b4⟩, Kp.rf⟩
  have ref : ∀ (K : Int32 → Int32 → Int32 → MS → Option (Int32 × MS)) (p : Int32), p = nI P → (cw (p_X12_powerOf G p w) fun r24 w22 => ob (p_X12_laysRests G (nI r) (nI n) p r24 w22) fun w25 => lw3 (P_X12_rests_101 G (nI s) p r24 (K p)) bN (0 : Int32) (-1 : Int32) (0 : Int32) w25) = K (nI P) (fs (gF (isR (w3'.1 72) P)) (3 ^ P) 0 (0, -1)).1 (fs (gF (isR (w3'.1 72) P)) (3 ^ P) 0 (0, -1)).2 w3' := fun K p ep => by
    subst ep
    rw [p_powerOf hP, u_cw]
    unfold p_X12_laysRests
    rw [show lw1 (P_X12_laysRests_3 G (nI r) (nI n) (nI P) (nI (3 ^ P))) bN (0 : Int32) w = some w3' from b2 bN (bN_gt (by omega)), u_ob]
    exact p_rest_all hP
  let KR : Int32 → Int32 → Int32 → MS → Option (Int32 × MS) := fun p v6_142 v7_142 h_142 => if nI s = 0 then (some (v6_142, h_142)) else if v6_142 = 0 then (some ((-100 : Int32), h_142)) else if nI s ≤ p then (cw (p_X12_placeOf G (nI s - (1 : Int32)) p h_142) fun r40 w38 => cw (p_X12_third G v7_142 r40 w38) fun r43 w41 => some (((4 : Int32) * r43) - (4 : Int32), w41)) else some ((-100 : Int32), h_142)
  rw [u_nn, show m_i h t 5 = nI (sN w.1) by rw [tr_i5 hC]; exact st_N hS, eP1, u_nn, u_ck ix_17_6, u_nn, tn_6, st_N hS]
  have fin2 : ∀ (a : Int32) (F : Option (Int32 × AH)), (F = some (a, h3') ∨ F = some (a, h)) → KR (nI P) (fs (gF (isR (w3'.1 72) P)) (3 ^ P) 0 (0, -1)).1 (fs (gF (isR (w3'.1 72) P)) (3 ^ P) 0 (0, -1)).2 w3' = some (a, w3') → ∃ r_1 h' w', F = some (r_1, h') ∧ (if (3 : Int32) ≤ nI (sN w.1) then (cw (p_X12_powerOf G 3 w) fun r24 w22 => ob (p_X12_laysRests G (nI r) (nI n) 3 r24 w22) fun w25 => lw3 (P_X12_rests_101 G (nI s) 3 r24 (KR 3)) bN (0 : Int32) (-1 : Int32) (0 : Int32) w25) else ck (ixn 17 (6 : Int32) = true) <| (cw (p_X12_powerOf G (nI (sN w.1)) w) fun r24 w22 => ob (p_X12_laysRests G (nI r) (nI n) (nI (sN w.1)) r24 w22) fun w25 => lw3 (P_X12_rests_101 G (nI s) (nI (sN w.1)) r24 (KR (nI (sN w.1)))) bN (0 : Int32) (-1 : Int32) (0 : Int32) w25)) = some (r_1, w') ∧ Rel h' X w' ∧ Kp X h h' := fun a F q1 q2 => by
    refine fin a _ _ q1 ?_
    by_cases q : (3 : Int32) ≤ nI (sN w.1)
    · rw [if_pos q] at eP2 ⊢
      exact (ref KR 3 eP2).trans q2
    · rw [if_neg q] at eP2
      rw [if_neg q, u_ck ix_17_6]
      exact (ref KR _ eP2).trans q2
  by_cases hsP : s ≤ P
  rotate_left
  · rw [if_neg (nI_ge (by omega) (by omega))]
    refine fin2 (-100) _ (Or.inr rfl) ?_
    have s0 : ¬ nI s = 0 := fun z => by rw [I_eq, nI_toInt (by omega)] at z; have i0 : (0 : Int32).toInt = 0 := rfl; omega
    show (if nI s = 0 then _ else _) = _
    rw [if_neg s0, if_neg (nI_ge (by omega) (by omega))]
    exact ite_self _
  rw [if_pos (nI_le (by omega) (by omega)), c_rowsOf hP, u_cb, show (lq1 _ bN (0 : Int32) h : Option (Int32 × AH)) = _ from b1 (nI s) _ bN (bN_gt (by omega))]
  by_cases s0 : s = 0
  · subst s0
    refine fin2 (fs (cF (isR (w3'.1 72) P)) (3 ^ P) 0 0) _ (Or.inl ?_) ?_
    · rw [← ecF]
      exact (c_rest_cnt hH hP).trans (if_pos rfl)
    · show (if nI 0 = 0 then _ else _) = _
      rw [if_pos (show nI 0 = 0 from rfl), gF_1]
  have n0 : ∀ a, 0 < a → a ≤ 100 → ¬ nI a = 0 := fun a q1 q2 z => by rw [I_eq, nI_toInt (by omega)] at z; have i0 : (0 : Int32).toInt = 0 := rfl; omega
  have ns := n0 s (by omega) (by omega)
  have hs0 : ¬ nI s ≤ 0 := fun z => by rw [I_le, nI_toInt (by omega)] at z; have i0 : (0 : Int32).toInt = 0 := rfl; omega
  have e1 := fun K1 K2 => c_rest_first (G := G) hH hP hs0 (K1 := K1) (K2 := K2) (3 ^ P) 0 bN (Nat.zero_add _) (bN_gt (by omega))
  rw [eff] at e1
  cases hf : ff (isR (w3'.1 72) P) (3 ^ P) 0 with
  | none =>
    rw [hf] at e1
    refine fin2 (-100) _ (Or.inl ((e1 _ _).trans (if_neg ns))) ?_
    rw [gF_none _ _ hf]
    show (if nI s = 0 then _ else if (0 : Int32) = 0 then _ else _) = _
    rw [if_neg ns, if_pos rfl]
  | some j =>
    rw [hf] at e1
    obtain ⟨-, hj, -⟩ := ff_some hf
    obtain ⟨a', g1, g2, g3⟩ := gF_some (b := -1) _ _ _ (by omega) hf
    obtain ⟨s', rfl⟩ : ∃ s', s = s' + 1 := ⟨s - 1, by omega⟩
    refine fin2 (4 * nI (dgt (P - 1 - s') j) - 4) _ (Or.inl ((e1 _ _).trans ?_)) ?_
    · show (cb (f_X11_lieInRow G (nI j) (nI (s' + 1) - 1) (nI P) h3') fun r47 h45 => some (r47, h45)) = _
      rw [(pr3 s' (by omega)).2]
      unfold f_X11_lieInRow
      rw [c_digit (by omega) (by omega) hP, u_cb, u_cb, (lie3 _ (dgt_lt _ _)).1]
    · rw [g3]
      show (if nI (s' + 1) = 0 then _ else if nI a' = 0 then _ else if nI (s' + 1) ≤ nI P then _ else _) = _
      rw [if_neg ns, if_neg (n0 a' g1 g2), if_pos (nI_le (by omega) (by omega)), (pr3 s' (by omega)).2, p_placeOf (by omega) hP, u_cw, p_third (by omega) (by omega), u_cw]
end
