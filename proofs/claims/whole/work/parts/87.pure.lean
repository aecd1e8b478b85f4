/-! PURE 87: comes. -/
section
variable {G : GG} {own : Nat → Nat} {R X c t U : Nat} {h h1 h2 h' : AH} {w w' w1 w2 w3 : MS} {v v' v0 : VV}
def mostV (v v' : VV) : Int32 := fs (fun q a => if a < v 12 q - v' 12 q then v 12 q - v' 12 q else a) (sN v) 0 0
theorem c_mostInTrial (hX : m_t h X = .inl 11) (h7 : m_r h X 7 = some (X + 34)) (h5 : m_r h X 5 = some (X + 10)) (h6 : m_t h (X + 10) = .inl 6) (h0 : m_r h (X + 10) 0 = some c) (hT : Cab h (X + 34) t v) (hST : St v) (hC : Cab h c t v') (hS : St v') (hN : sN v' = sN v) : f_X11_mostInTrial G X h = some (mostV v v', h) := by
  unfold f_X11_mostInTrial
  show lq2 (F_X11_mostInTrial_4 G X) bN 0 (nI 0) h = _
  refine lq2_fs (N := sN v) (fun q a => if a < v 12 q - v' 12 q then v 12 q - v' 12 q else a) (fun a => some (a, h)) ?_ ?_ (d := sN v) (Nat.zero_add _) (bN8 hST)
  · intro self a
    rw [F_X11_mostInTrial_4, u_ck hX, h7, u_ob, u_ck (cab_t hT), cab_0 hT, u_ob, u_ck (tr_t hT), tr_i5 hT, if_pos (of_eq_true (nle_N hST))]
  · intro self a q hq
    rw [F_X11_mostInTrial_4, u_ck hX, h7, u_ob, u_ck (cab_t hT), cab_0 hT, u_ob, u_ck (tr_t hT), tr_i5 hT, if_neg (of_eq_false (nle_q hST hq)), c_inTrial hX h7 h5 h6 h0 hT hST hC hS hq (by rw [hN]; exact hq), u_cb, u_nn, u_nn]
theorem p_most (hS : St w.1) (v' : VV) (h71 : ∀ q, q < sN w.1 → w.1 71 q = v' 12 q) (a b : Int32) (K : Int32 → MS → Option (Int32 × MS)) : lw2 (P_X12_comes_95 G a b K) bN 0 0 w = K (mostV w.1 v') w := by
  refine (show _ = lw2 (P_X12_comes_95 G a b K) bN 0 (nI 0) w from rfl).trans ?_
  refine lw2_fs (N := sN w.1) (fun q a => if a < w.1 12 q - v' 12 q then w.1 12 q - v' 12 q else a) (fun a => K a w) ?_ ?_ (d := sN w.1) (Nat.zero_add _) (bN8 hS)
  · intro self x
    rw [P_X12_comes_95, u_ck ix_17_6, tn_6, if_pos (of_eq_true (nle_N hS))]
  · intro self x q hq
    rw [P_X12_comes_95, u_ck ix_17_6, tn_6, if_neg (of_eq_false (nle_q hS hq)), u_ck (q8 hS hq), u_ck (q8 hS hq), u_nn, u_nn, qc hS hq, h71 q hq, if_nlt]
    by_cases z : w.1 12 q - v' 12 q ≤ x
    · rw [if_pos z, if_pos z]; rfl
    · rw [if_neg z, if_neg z]; rfl
theorem PW3.of1 {i : Nat} {x : Int32} (hi : 14 ≤ i) : PW3 w.1 (w_si w 1 i x).1 := fun r h1 h2 j hj hj2 => by
  by_cases z : r = 1
  · subst z; rw [w_si_j (by have := hj2 rfl; omega)]
  · rw [w_si_r z]
theorem PW3.tr {v v1 v2 : VV} (a : PW3 v v1) (b : PW3 v1 v2) : PW3 v v2 := fun r h1 h2 i hi hx => (b r h1 h2 i hi hx).trans (a r h1 h2 i hi hx)
theorem call_comes (x y z : Int32) : Call X (f_X11_comes G X x y z) (p_X12_comes G x y z) := by
  intro h w ⟨own, R, hR⟩
  obtain ⟨U, c, t, hc⟩ := hR.cur
  have hB := hc.1
  have hSt := hc.2.1
  have hS := hSt.1
  have hr := hR.2.2.1
  have pin2 : ∀ w : MS, p_X12_in G z.toInt64 (0 : Int64) (2 : Int64) w = some (if 0 ≤ z ∧ z ≤ 2 then 1 else 0, w) := fun w => p_in_i G z 0 2 w
  have pinR : p_X12_in G x.toInt64 (-1 : Int64) ((w.1 0 36 - 1).toInt64) w = some (if (-1 : Int32) ≤ x ∧ x ≤ w.1 0 36 - 1 then 1 else 0, w) := p_in_i G x (-1) (w.1 0 36 - 1) w
  unfold f_X11_comes p_X12_comes
  rw [u_ck hB.1.1, c_canTry hB hS, u_cb, p_isTrain hS, u_cw, rng_ge (N := 2), pinR, hr.2.1]
  simp only [in_m1 hr.1]
  have n0 : w.1 1 0 = 1 → ¬ w.1 1 0 = 0 := fun e => by rw [e]; decide
  by_cases hy : w.1 1 0 = 1 ∧ (1 ≤ y ∧ y ≤ 60) ∧ y ≤ 240 - w.1 1 10
  rotate_left
  · rw [if_neg hy, if_pos rfl]
    by_cases q0 : w.1 1 0 = 0
    · rw [if_pos q0]; exact stay hR _
    have q1 : w.1 1 0 = 1 := (told01 hS).resolve_left q0
    rw [if_neg q0, u_cw]
    by_cases hx : x = -1 ∨ (0 ≤ x ∧ x ≤ nI R - 1)
    · rw [if_pos hx, if_neg n10, pin160, u_cw]
      by_cases h60 : 1 ≤ y ∧ y ≤ 60
      · have hl : 240 - w.1 1 10 < y := Classical.byContradiction fun e => hy ⟨q1, h60, by rw [I_lt] at e; rw [I_le]; omega⟩
        rw [if_pos h60, if_neg n10, p_milesLeft, u_cw, if_pos hl]; exact stay hR _
      · rw [if_neg h60, if_pos rfl]; exact stay hR _
    · rw [if_neg hx, if_pos rfl]; exact stay hR _
  have hy' := hy
  obtain ⟨q, h60, hl⟩ := hy
  have hl' : ¬ 240 - w.1 1 10 < y := by rw [I_le] at hl; rw [I_lt]; omega
  rw [if_pos hy', if_neg n10, if_neg (n0 q), u_cw]
  by_cases hz : 0 ≤ z ∧ z ≤ 2
  rotate_left
  · rw [if_neg hz]
    by_cases hx : x = -1 ∨ (0 ≤ x ∧ x ≤ nI R - 1)
    · rw [if_pos hx, if_neg n10, pin160, u_cw, if_pos h60, if_neg n10, p_milesLeft, u_cw, if_neg hl', pin2, u_cw, if_neg hz, if_pos rfl]; exact stay hR _
    · rw [if_neg hx, if_pos rfl]; exact stay hR _
  rw [if_pos hz, u_nn]
  by_cases hx : x = -1 ∨ (0 ≤ x ∧ x ≤ nI R - 1)
  rotate_left
  · have e1 : ¬ x = -1 := fun e => hx (Or.inl e)
    have e2 : ¬ (0 ≤ x ∧ x ≤ nI R - 1) := fun e => hx (Or.inr e)
    rw [if_neg e1, u_ck hB.1.1, c_hasLaw hB.1.1 hr.2.2.1 hr.1, u_cb, if_neg e2, if_pos rfl, if_neg hx, if_pos rfl]; exact stay hR _
  rw [if_pos hx, if_neg n10, pin160, u_cw, if_pos h60, if_neg n10, p_milesLeft, u_cw, if_neg hl', pin2, u_cw, if_pos hz, if_neg n10]
  obtain ⟨h1', b1, b2, b3⟩ := c_trial (G := G) hR hc q
  obtain ⟨hC, hCa⟩ := hc.2.2.1.cab q
  have hR1 := hR.frq b2
  have hB1 := hc.frq hR b2
  obtain ⟨wk, k1, -⟩ := p_keepsAll (G := G) (w := w)
  obtain ⟨kr, kp⟩ := keeps_pw k1
  obtain ⟨wc, c1, c2, c3, c4⟩ := p_copies (G := G) (a := 12) (b := 71) rfl rfl (by decide) rfl (by decide) wk
  have ew : PW3 w.1 (w_si wc 1 16 x).1 := (kp.p3.tr (PW.of (fun r q1 q2 => c2 r (by omega))).p3).tr (PW3.of1 (by decide))
  have hSk := hSt.pw ew
  have hCk : Cab h1' (X + 34) t (w_si wc 1 16 x).1 := b3.pw hS ew
  have hxx : x = -1 ∨ ∃ r, r < R ∧ x = nI r := hx.imp id (law_in hr.1)
  obtain ⟨law, l1, l2, l3⟩ := trial_law (G := G) hR1 hCk (hCa.frq b2) (x := x) hxx (fun k q1 q2 => by rw [w_si_r (by omega), c2 k (by omega), kr k (by omega) (by omega)]) (w_si_s _ _ _ _)
  obtain ⟨n, rfl, hn1, hn2⟩ := nat_of (x := y) (L := 240 - w.1 1 10) ⟨by have := h60.1; rw [I_le] at this ⊢; have i1 : (1 : Int32).toInt = 1 := rfl; have i0 : (0 : Int32).toInt = 0 := rfl; omega, hl⟩
  have hleft := left_i hS
  have hmk : ((w_si wc 1 16 x).1 1 10).toInt = (w.1 1 10).toInt := by rw [px1 ew (by decide)]
  have hm0 := (st_mile hS).1
  obtain ⟨h2', w2, g1, g2, g3, g4, g5, g6, g7, g8⟩ := goes_both (G := G) hR1.1.1.1 hR1.m7 (N := n) (by omega) hCk hSk l2 (by omega)
  have hF2 : FrQ X R h h2' := b2.tr (g6.q l3)
  have hs : ∀ r, r = 0 ∨ (3 ≤ r ∧ r ≤ 7) ∨ (13 ≤ r ∧ r ≤ 19) ∨ (42 ≤ r ∧ r ≤ 48) ∨ r = 53 ∨ r = 81 ∨ r = 82 → w2.1 r = wk.1 r := fun r hr => by
    rw [g7 r (by unfold MRw; omega), w_si_r (by omega), c2 r (by omega)]
  obtain ⟨w3, e1, e2, -⟩ := kb (G := G) k1 hs
  have hB2 := hc.frq hR hF2
  have x2 : m_t h2' X = .inl 11 := hB2.1.1
  have r2 : m_r h2' X 7 = some (X + 34) := by rw [hF2.2.2.1 X (by omega)]; exact hR.m7
  have hC2 : Cab h2' c t w.1 := hC.frq (st_N8 hS) hCa hR.2.2.2.1 hF2
  have eN : sN w2.1 = sN w.1 := by
    unfold sN; rw [g8 6 (by decide) (by decide) (by decide)]; exact congrArg _ (px1 ew (by decide))
  have h12 : ∀ q, q < sN w.1 → (w_si wc 1 16 x).1 12 q = w.1 12 q := fun q hq => px12 ew (by have := st_N8 hS; omega)
  have h71 : ∀ q, q < sN w2.1 → w2.1 71 q = w.1 12 q := fun q hq => by
    rw [eN] at hq
    rw [g7 71 (by unfold MRw; omega), w_si_r (by decide), c4, if_pos (show q < mln 12 from (show q < 8 by have := st_N8 hS; omega)), kr 12 (by decide) (by decide)]
  have eD : dsum (w_si wc 1 16 x) w2 (sN (w_si wc 1 16 x).1) = sumV w2.1 - sumV w.1 := by
    rw [pwN ew]
    unfold sumV
    rw [eN, sum_dsum]
    unfold dsum
    exact fs_cong (fun j _ hj a => by rw [h12 j (by omega)])
  rw [k1, u_ob, c1, u_ob, u_ck ix_17_16, u_nn, tn_16, g2, u_cw, p_most g4.1 w.1 h71, p_crossest g4.1, u_cw, e1, u_ob]
  have fin : ∀ (F : Option (Int32 × AH)) (P : Option (Int32 × MS)), (∃ a, F = some (a, h2') ∧ P = some (a, w3)) → ∃ r h' w', F = some (r, h') ∧ P = some (r, w') ∧ Rel h' X w' ∧ Kp X h h' := fun F P ⟨a, q1, q2⟩ => ⟨a, h2', w3, q1, q2, ⟨own, R, (hR.frq hF2).wq e2⟩, hF2.kp hR⟩
  have cls : (ck (m_t h X = .inl 11) <| ob (m_r h X 7) fun b9 => ob (m_r h X 5) fun b10 => ck (m_t h b10 = .inl 6) <| ob (m_r h b10 0) fun b12 => ck (m_t h b9 = .inl 0) <| ob (f_X0_copyFrom G b9 b12 h) fun h14 => ck (m_t h14 X = .inl 11) <| cb (f_X11_lawOf G X x h14) fun r19 h17 => ck (m_t h17 X = .inl 11) <| ob (f_X11_goTrial G X r19 (nI n) h17) fun h21 => if z = (0 : Int32) then (ck (m_t h21 X = .inl 11) <| ob (m_r h21 X 7) fun b25 => ck (m_t h21 b25 = .inl 0) <| cb (f_X0_sufferedByAll G b25 h21) fun r29 h27 => ck (m_t h27 X = .inl 11) <| ob (m_r h27 X 5) fun b31 => ck (m_t h27 b31 = .inl 6) <| ob (m_r h27 b31 0) fun b33 => ck (m_t h27 b33 = .inl 0) <| cb (f_X0_sufferedByAll G b33 h27) fun r37 h35 => some (r29 - r37, h35)) else if z = (1 : Int32) then (ck (m_t h21 X = .inl 11) <| cb (f_X11_mostInTrial G X h21) fun r42 h40 => some (r42, h40)) else ck (m_t h21 X = .inl 11) <| ob (m_r h21 X 7) fun b44 => ck (m_t h21 b44 = .inl 0) <| cb (f_X0_greatestCrossness G b44 h21) fun r48 h46 => some (r48, h46)) = some (if z = 0 then sumV w2.1 - sumV w.1 else if z = 1 then mostV w2.1 w.1 else croV w2.1, h2') := by
    rw [u_ck hB.1.1, hR.m7, u_ob, hB.1.2.1, u_ob, u_ck hB.1.2.2.1, hB.1.2.2.2.1, u_ob, u_ck hR.1.2.2.2.1.1, b1, u_ob, u_ck hB1.1.1, l1, u_cb, u_ck hB1.1.1, g1, u_ob]
    by_cases z0 : z = 0
    · rw [if_pos z0, if_pos z0, u_ck x2, r2, u_ob, u_ck (cab_t g3), c_sufferedByAll g3 g4.1, u_cb, u_ck x2, hB2.1.2.1, u_ob, u_ck hB2.1.2.2.1, hB2.1.2.2.2.1, u_ob, u_ck (cab_t hC2), c_sufferedByAll hC2 hS, u_cb]
    · rw [if_neg z0, if_neg z0]
      by_cases z1 : z = 1
      · rw [if_pos z1, if_pos z1, u_ck x2, c_mostInTrial x2 r2 hB2.1.2.1 hB2.1.2.2.1 hB2.1.2.2.2.1 g3 g4.1 hC2 hS eN.symm, u_cb]
      · rw [if_neg z1, if_neg z1, u_ck x2, r2, u_ob, u_ck (cab_t g3), c_greatestCrossness g3 g4.1 g4.2.1, u_cb]
  have prt : (if z = 0 then some (dsum (w_si wc 1 16 x) w2 (sN (w_si wc 1 16 x).1), w3) else if z = 1 then some (mostV w2.1 w.1, w3) else some (croV w2.1, w3)) = some (if z = 0 then sumV w2.1 - sumV w.1 else if z = 1 then mostV w2.1 w.1 else croV w2.1, w3) := by
    by_cases z0 : z = 0
    · rw [if_pos z0, if_pos z0, eD]
    · rw [if_neg z0, if_neg z0]
      by_cases z1 : z = 1
      · rw [if_pos z1, if_pos z1]
      · rw [if_neg z1, if_neg z1]
  rcases hx with hx | hx
  · rw [if_pos hx]
    exact fin _ _ ⟨_, cls, prt⟩
  · have hx1 : ¬ x = -1 := fun e => by rw [e] at hx; exact absurd hx.1 (by decide)
    rw [if_neg hx1, u_ck hB.1.1, c_hasLaw hB.1.1 hr.2.2.1 hr.1, u_cb, if_pos hx, if_neg n10]
    exact fin _ _ ⟨_, cls, prt⟩
end
