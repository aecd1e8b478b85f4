/-! PURE 99yf: the steps of a test, on both sides. -/
section
variable {G : GG} {n j p m v3 : Nat} {w w5 w7 w15 w17 w23 w27 w40 wr wr1 : MS} {v1 v2 : Int32} {rf : Int32 → MS → Option MS}
theorem ts_F (h : w.1 0 34 ≠ 0) : lw2 (P_X12_test_9 G) (m + 1) v1 v2 w = some w := by
  show P_X12_test_9 G _ _ _ _ = _
  unfold P_X12_test_9
  by_cases z : v2 = 0
  · rw [if_pos z]
  · rw [if_neg z, if_neg h]
theorem ts_end : lw2 (P_X12_test_9 G) (m + 1) v1 0 w = some w := by
  show P_X12_test_9 G _ _ _ _ = _
  unfold P_X12_test_9
  rw [if_pos rfl]
theorem ts_fact (h : w.1 0 34 = 0) : lw2 (P_X12_test_9 G) (m + 1) 1 1 w = cw (p_X12_fact G w) fun r44 w42 => lw2 (P_X12_test_9 G) m (if r44 = 0 then 1 else 0) 1 w42 := by
  show P_X12_test_9 G _ _ _ _ = _
  unfold P_X12_test_9
  rw [if_neg n10, if_pos h, if_neg n10]
  congr 1
  funext r44 w42
  rw [u_nn]
  by_cases z : r44 = 0
  · rw [if_pos z, if_pos z]
  · rw [if_neg z, if_neg z]
theorem ts_and (h : w.1 0 34 = 0) (h1 : p_X12_answers G 9 w = some w5) (h2 : p_X12_blanks G w5 = some w7) (h3 : p_X12_stood G (G.2.2.2.1 23) w7 = some (1, w7)) (h4 : p_X12_stood G (G.2.2.2.1 24) w7 = some (0, w7)) (h5 : p_X12_answers G 10 w7 = some w15) (h6 : p_X12_opens G 10 w15 = some w17) : lw2 (P_X12_test_9 G) (m + 1) 0 1 w = lw2 (P_X12_test_9 G) m 1 1 (w_si w17 0 33 (w17.1 0 33 + 3)) := by
  show P_X12_test_9 G _ _ _ _ = _
  unfold P_X12_test_9
  simp only [if_neg n10, if_pos h, if_true, h1, u_ob, h2, h3, u_cw, h4, h5, u_nn, h6]
theorem ts_or (h : w.1 0 34 = 0) (h1 : p_X12_answers G 9 w = some w5) (h2 : p_X12_blanks G w5 = some w7) (h3 : p_X12_stood G (G.2.2.2.1 23) w7 = some (0, w7)) (h4 : p_X12_stood G (G.2.2.2.1 24) w7 = some (1, w7)) (h5 : p_X12_answers G 10 w7 = some w15) (h5' : p_X12_answers G 11 w15 = some w23) (h6 : p_X12_opens G 11 w23 = some w17) : lw2 (P_X12_test_9 G) (m + 1) 0 1 w = lw2 (P_X12_test_9 G) m 1 1 (w_si w17 0 33 (w17.1 0 33 + 2)) := by
  show P_X12_test_9 G _ _ _ _ = _
  unfold P_X12_test_9
  simp only [if_neg n10, if_pos h, if_true, h1, u_ob, h2, h3, u_cw, h4, h5, u_nn, h5', h6]
theorem ts_out {x : Int32} (h : w.1 0 34 = 0) (h1 : p_X12_answers G 9 w = some w5) (h2 : p_X12_blanks G w5 = some w7) (h3 : p_X12_stood G (G.2.2.2.1 23) w7 = some (0, w7)) (h4 : p_X12_stood G (G.2.2.2.1 24) w7 = some (0, w7)) (h5 : p_X12_answers G 10 w7 = some w15) (h5' : p_X12_answers G 11 w15 = some w27) (h6 : p_X12_top G w27 = some (x, w27)) (hx : x ≠ 12) : lw2 (P_X12_test_9 G) (m + 1 + 1) 0 1 w = some w27 := by
  show P_X12_test_9 G _ _ _ _ = _
  unfold P_X12_test_9
  simp only [if_neg n10, if_pos h, if_true, h1, u_ob, h2, h3, u_cw, h4, h5, u_nn, h5', h6, if_neg hx]
  exact ts_end
/-- a bracket is closed, or should be -/
def clB (w : MS) : MS := w_si (w_si (w_si w 0 33 (w.1 0 33 + 1)) 0 40 ((w_si w 0 33 (w.1 0 33 + 1)).1 0 40 - 1)) 0 38 ((w_si (w_si w 0 33 (w.1 0 33 + 1)) 0 40 ((w_si w 0 33 (w.1 0 33 + 1)).1 0 40 - 1)).1 0 38 - 1)
theorem ts_br {s : Int32} (h : w.1 0 34 = 0) (h1 : p_X12_answers G 9 w = some w5) (h2 : p_X12_blanks G w5 = some w7) (h3 : p_X12_stood G (G.2.2.2.1 23) w7 = some (0, w7)) (h4 : p_X12_stood G (G.2.2.2.1 24) w7 = some (0, w7)) (h5 : p_X12_answers G 10 w7 = some w15) (h5' : p_X12_answers G 11 w15 = some w27) (h6 : p_X12_top G w27 = some (12, w27)) (h7 : p_X12_sign G w27 = some (s, w27)) (h8 : (if s = 93 then some w27 else p_X12_fails G 0 (w27.1 0 33) w27) = some w40) : lw2 (P_X12_test_9 G) (m + 1) 0 1 w = lw2 (P_X12_test_9 G) m 0 1 (clB w40) := by
  show P_X12_test_9 G _ _ _ _ = _
  unfold P_X12_test_9 clB
  by_cases z : s = 93
  · rw [if_pos z] at h8
    cases h8
    simp only [if_neg n10, if_pos h, if_true, h1, u_ob, h2, h3, u_cw, h4, h5, u_nn, h5', h6, h7, if_pos z]
  · rw [if_neg z] at h8
    simp only [if_neg n10, if_pos h, if_true, h1, u_ob, h2, h3, u_cw, h4, h5, u_nn, h5', h6, h7, if_neg z, h8]
/-- the class's loop over joints -/
def KT (G : GG) (v : Int32) (h : MS) : Option MS := if v = 0 then (some h) else ob (s_X3_write G (-315 : Int32) h) fun w25 => some w25
theorem test_eC (v : Int32) : s_X3_readTest G rf v wr = ob (rf v wr) fun w1 => lw2 (S_X3_readTest_9 G rf v (KT G)) bN (0 : Int32) (0 : Int32) w1 := rfl
theorem c9_F {K : Int32 → MS → Option MS} {v x : Int32} (h : wr.1 0 9 ≠ 0) : lw2 (S_X3_readTest_9 G rf v K) (m + 1) v2 x wr = K v2 wr := by
  show S_X3_readTest_9 G rf v K _ _ _ _ = _
  unfold S_X3_readTest_9
  by_cases z : (400 : Int32) ≤ x
  · rw [if_pos z]
  · rw [if_neg z, if_neg h]
theorem c9_no {K : Int32 → MS → Option MS} {v x : Int32} (h : wr.1 0 9 = 0) (h1 : wr.1 0 7 ≠ 315) (h2 : wr.1 0 7 ≠ 316) : lw2 (S_X3_readTest_9 G rf v K) (m + 1) v2 x wr = K v2 wr := by
  show S_X3_readTest_9 G rf v K _ _ _ _ = _
  unfold S_X3_readTest_9 s_X3_isJoint
  by_cases z : (400 : Int32) ≤ x
  · rw [if_pos z]
  · rw [if_neg z, if_pos h, if_neg h1, if_neg h2, u_cw, if_pos rfl]
theorem c9_and {K : Int32 → MS → Option MS} {v : Int32} (h : wr.1 0 9 = 0) (hv : v3 < 400) (h2 : wr.1 0 7 = 316) : lw2 (S_X3_readTest_9 G rf v K) (m + 1) v2 (nI v3) wr = ob (s_X8_advance G wr) fun w9 => ob (rf v w9) fun w11 => ob (s_X3_write G (-316) w11) fun w15 => lw2 (S_X3_readTest_9 G rf v K) m (if v2 = 0 then 0 else 1) (nI (v3 + 1)) w15 := by
  show S_X3_readTest_9 G rf v K _ _ _ _ = _
  have a : ¬ wr.1 0 7 = 315 := by rw [h2]; decide
  unfold S_X3_readTest_9 s_X3_isJoint
  rw [if_neg (show ¬ (400 : Int32) ≤ nI v3 from nI_ge (b := 400) hv (by omega)), if_pos h, if_neg a, if_pos h2, u_cw, if_neg n10]
  by_cases z : v2 = 0
  · simp only [u_nn, if_neg a, if_true, if_pos z, nI_1]
  · simp only [u_nn, if_neg a, if_true, if_neg z, nI_1]
theorem c9_or {K : Int32 → MS → Option MS} {v : Int32} (h : wr.1 0 9 = 0) (hv : v3 < 400) (h2 : wr.1 0 7 = 315) : lw2 (S_X3_readTest_9 G rf v K) (m + 1) v2 (nI v3) wr = ob (if v2 = 0 then some wr else s_X3_write G (-315) wr) fun w20 => ob (s_X8_advance G w20) fun w9 => ob (rf v w9) fun w11 => lw2 (S_X3_readTest_9 G rf v K) m 1 (nI (v3 + 1)) w11 := by
  show S_X3_readTest_9 G rf v K _ _ _ _ = _
  unfold S_X3_readTest_9 s_X3_isJoint
  rw [if_neg (show ¬ (400 : Int32) ≤ nI v3 from nI_ge (b := 400) hv (by omega)), if_pos h, if_pos h2, u_cw, if_neg n10]
  by_cases z : v2 = 0
  · simp only [u_nn, if_pos h2, if_neg n10, if_pos z, nI_1, u_ob]
  · simp only [u_nn, if_pos h2, if_neg n10, if_neg z, nI_1]
end
