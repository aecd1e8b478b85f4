/-! PURE 99yg: the steps of a fact, on both sides. -/
section
variable {G : GG} {n j p m d : Nat} {w wb w4 w11 w16 wr : MS} {v1 s : Int32} {rf : Int32 → MS → Option MS}
theorem fc_cmp (h1 : wr.1 0 7 ≠ 317) (h2 : wr.1 0 7 ≠ 91) : s_X3_readFact_o G rf v1 wr = ob (s_X3_readComparison G wr) fun w20 => some w20 := by
  unfold s_X3_readFact_o
  simp only [u_nn, if_neg h1, if_neg h2]
theorem fc_deep (h : wr.1 0 7 = 317 ∨ wr.1 0 7 = 91) (hv : ¬ v1 < 10) : s_X3_readFact_o G rf v1 wr = ob (s_X8_fail G 2 wr) fun w16 => some w16 := by
  unfold s_X3_readFact_o
  by_cases z : wr.1 0 7 = 317
  · simp only [u_nn, if_pos z, if_neg hv]
  · simp only [u_nn, if_neg z, if_pos (h.resolve_left z), if_neg hv]
theorem fc_not (h : wr.1 0 7 = 317) (hv : v1 < 10) : s_X3_readFact_o G rf v1 wr = ob (s_X8_advance G wr) fun w4 => ob (rf (v1 + 1) w4) fun w6 => ob (s_X3_write G (-317) w6) fun w8 => some w8 := by
  unfold s_X3_readFact_o
  simp only [u_nn, if_pos h, if_pos hv]
theorem fc_br (h : wr.1 0 7 = 91) (hv : v1 < 10) : s_X3_readFact_o G rf v1 wr = ob (s_X8_advance G wr) fun w10 => ob (s_X3_readTest G rf (v1 + 1) w10) fun w12 => ob (s_X8_takeByte G 93 w12) fun w14 => some w14 := by
  have z : ¬ wr.1 0 7 = 317 := by rw [h]; decide
  unfold s_X3_readFact_o
  simp only [u_nn, if_neg z, if_pos h, if_pos hv]
theorem fr_not (h1 : p_X12_blanks G w = some wb) (h2 : p_X12_stood G (G.2.2.2.1 22) wb = some (1, wb)) (h3 : p_X12_opens G 9 wb = some w16) : p_X12_fact G w = some (0, w_si w16 0 33 (w16.1 0 33 + 3)) := by
  unfold p_X12_fact
  rw [h1, u_ob, h2, u_cw, if_neg n10, h3, u_ob, u_nn]
theorem fr_br (h1 : p_X12_blanks G w = some wb) (h2 : p_X12_stood G (G.2.2.2.1 22) wb = some (0, wb)) (h3 : p_X12_sign G wb = some (91, wb)) (h4 : p_X12_opens G 12 wb = some w11) : p_X12_fact G w = some (0, w_si w11 0 33 (w11.1 0 33 + 1)) := by
  unfold p_X12_fact
  rw [h1, u_ob, h2, u_cw, if_pos rfl, h3, u_cw, if_pos rfl, h4, u_ob, u_nn]
theorem fr_cmp (h1 : p_X12_blanks G w = some wb) (h2 : p_X12_stood G (G.2.2.2.1 22) wb = some (0, wb)) (h3 : p_X12_sign G wb = some (s, wb)) (hs : s ≠ 91) : p_X12_fact G w = ob (p_X12_compared G wb) fun w14 => some (1, w14) := by
  unfold p_X12_fact
  rw [h1, u_ob, h2, u_cw, if_pos rfl, h3, u_cw, if_neg hs]
/-- which word stands at a token of the class, and of the reference -/
theorem sy_wd {N k : Nat} {T : Nat → Nat} {p j : Nat} (hj : j < 18) (hT : TxW N T w) : syv wlR N T p = nI (300 + j) ↔ wd N T (wlR.getD j []) p = true := by
  constructor
  · intro h
    cases hff : ff (fun q => wd N T (wlR.getD q []) p) wlR.length 0 with
    | none =>
      obtain ⟨c, c1, c2⟩ := sy_none (wl := wlR) hT hff
      rw [c2] at h
      exact absurd ((nI_eq (a := c) (b := 300 + j) (by omega) (by omega)).mp h) (by omega)
    | some i =>
      obtain ⟨s1, s2, s3, s4, s5⟩ := sy_some (wl := wlR) wlR_pos hff
      have s5' : i < 18 := s5
      rw [s3] at h
      have e := (nI_eq (a := 300 + i) (b := 300 + j) (by omega) (by omega)).mp h
      have : i = j := by omega
      subst this
      exact (ff_some hff).2.2.1
  · intro h
    obtain ⟨h1, h2, h3⟩ := wd_L h (wlR_pos j hj)
    have hd := of_decide_eq_true h
    cases hff : ff (fun q => wd N T (wlR.getD q []) p) wlR.length 0 with
    | none =>
      have := ff_none hff j (Nat.zero_le _) (by show j < 0 + 18; omega)
      rw [h] at this; cases this
    | some i =>
      obtain ⟨s1, s2, s3, s4, s5⟩ := sy_some (wl := wlR) wlR_pos hff
      have hi := of_decide_eq_true (ff_some hff).2.2.1
      have s5' : i < 18 := s5
      rw [s3]
      have : i = j := by
        refine wlR_inj i s5' j hj (List.ext_getElem (hi.1.symm.trans hd.1) (fun q q1 q2 => ?_))
        have a := hi.2 q q1
        have b := hd.2 q q2
        rw [List.getD_eq_getElem?_getD, List.getElem?_eq_getElem q1, Option.getD_some] at a
        rw [List.getD_eq_getElem?_getD, List.getElem?_eq_getElem q2, Option.getD_some] at b
        rw [← a, ← b]
      rw [this]
end
