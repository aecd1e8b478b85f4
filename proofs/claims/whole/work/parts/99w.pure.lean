/-! PURE 99w: a sum: the steps of both. -/
section
variable {G : GG} {X t N k n j p r c E C W m v2 : Nat} {T : Nat → Nat} {w w' w1 w2 wr wr' wr1 : MS} {f v1 : Int32} {wl : List (List Nat)}
theorem t8_F (h : w.1 0 34 ≠ 0) : lw0 (P_X12_term_8 G) (m + 1) w = some w := by
  show P_X12_term_8 G _ _ = _
  unfold P_X12_term_8; rw [if_neg h]
theorem s4_F (h : w.1 0 34 ≠ 0) : lw0 (P_X12_sum_4 G) (m + 1) w = some w := by
  show P_X12_sum_4 G _ _ = _
  unfold P_X12_sum_4; rw [if_neg h]
theorem sg_ne (hT : TxW N T w) {d : Nat} (hd : d < 256) (h : ¬ (p < N ∧ T p = d)) : ¬ sgn N T p = nI d := fun q => h ((sgn_eq hT hd).mp q)
theorem sg_is (hT : TxW N T w) {d : Nat} (hd : d < 256) (h : p < N ∧ T p = d) : sgn N T p = nI d := (sgn_eq hT hd).mpr h
theorem t8_no (hT : TxW N T w) (hp : w.1 0 33 = nI p) (h9 : p ≤ 900) (h : w.1 0 34 = 0) (n1 : ¬ (p < N ∧ T p = 42)) (n2 : ¬ (p < N ∧ T p = 47)) (n3 : ¬ (p < N ∧ T p = 37)) : lw0 (P_X12_term_8 G) (m + 1) w = some w := by
  show P_X12_term_8 G _ _ = _
  unfold P_X12_term_8
  rw [if_pos h, p_sign' hT hp h9, u_cw, u_nn, if_neg (show ¬ sgn N T p = (42 : Int32) from sg_ne hT (by decide) n1), p_sign' hT hp h9, u_cw, if_neg (show ¬ sgn N T p = (47 : Int32) from sg_ne hT (by decide) n2), p_sign' hT hp h9, u_cw, if_neg (show ¬ sgn N T p = (37 : Int32) from sg_ne hT (by decide) n3)]
def tcode (d : Nat) : Int32 := if d = 42 then 13 else if d = 47 then 14 else 15
theorem t8_op (hT : TxW N T w) (hp : w.1 0 33 = nI p) (h9 : p ≤ 900) (h : w.1 0 34 = 0) {d : Nat} (hd : d = 42 ∨ d = 47 ∨ d = 37) (n1 : p < N ∧ T p = d) : lw0 (P_X12_term_8 G) (m + 1) w = ob (p_X12_value G (w_si w 0 33 (nI (p + 1)))) fun w13 => ob (p_X12_entry G (tcode d) 0 w13) fun w15 => ob (p_X12_blanks G w15) fun w17 => lw0 (P_X12_term_8 G) m w17 := by
  show P_X12_term_8 G _ _ = _
  unfold P_X12_term_8
  rw [if_pos h, p_sign' hT hp h9, u_cw, u_nn]
  rcases hd with rfl | rfl | rfl
  · have e : sgn N T p = (42 : Int32) := sg_is hT (by decide) n1
    rw [if_pos e]; dsimp only
    rw [p_sign' hT hp h9, u_cw, u_nn, if_pos e]; dsimp only
    rw [hp, nI_1, u_nn]; rfl
  · have e : sgn N T p = (47 : Int32) := sg_is hT (by decide) n1
    have e' : ¬ sgn N T p = (42 : Int32) := sg_ne (d := 42) hT (by decide) (by omega)
    rw [if_neg e', p_sign' hT hp h9, u_cw, if_pos e]; dsimp only
    rw [p_sign' hT hp h9, u_cw, u_nn, if_neg e', p_sign' hT hp h9, u_cw, if_pos e]; dsimp only
    rw [hp, nI_1, u_nn]; rfl
  · have e : sgn N T p = (37 : Int32) := sg_is hT (by decide) n1
    have e' : ¬ sgn N T p = (42 : Int32) := sg_ne (d := 42) hT (by decide) (by omega)
    have e'' : ¬ sgn N T p = (47 : Int32) := sg_ne (d := 47) hT (by decide) (by omega)
    rw [if_neg e', p_sign' hT hp h9, u_cw, if_neg e'', p_sign' hT hp h9, u_cw, if_pos e]; dsimp only
    rw [p_sign' hT hp h9, u_cw, u_nn, if_neg e', p_sign' hT hp h9, u_cw, if_neg e'']; dsimp only
    rw [hp, nI_1, u_nn]; rfl
theorem s4_no (hT : TxW N T w) (hp : w.1 0 33 = nI p) (h9 : p ≤ 900) (h : w.1 0 34 = 0) (n1 : ¬ (p < N ∧ T p = 43)) (n2 : ¬ (p < N ∧ T p = 45)) : lw0 (P_X12_sum_4 G) (m + 1) w = some w := by
  show P_X12_sum_4 G _ _ = _
  unfold P_X12_sum_4
  rw [if_pos h, p_sign' hT hp h9, u_cw, u_nn, if_neg (show ¬ sgn N T p = (43 : Int32) from sg_ne hT (by decide) n1), p_sign' hT hp h9, u_cw, if_neg (show ¬ sgn N T p = (45 : Int32) from sg_ne hT (by decide) n2)]
def scode (v : Int32) : Int32 := if v = 43 then 2 else 3
theorem s4_op (hT : TxW N T w) (hp : w.1 0 33 = nI p) (h9 : p ≤ 900) (h : w.1 0 34 = 0) {d : Nat} (hd : d = 43 ∨ d = 45) (n1 : p < N ∧ T p = d) : lw0 (P_X12_sum_4 G) (m + 1) w = ob (p_X12_term G (w_si w 0 33 (nI (p + 1)))) fun w11 => ob (p_X12_entry G (scode (nI d)) 0 w11) fun w13 => lw0 (P_X12_sum_4 G) m w13 := by
  show P_X12_sum_4 G _ _ = _
  unfold P_X12_sum_4
  rw [if_pos h, p_sign' hT hp h9, u_cw, u_nn]
  rcases hd with rfl | rfl
  · have e : sgn N T p = (43 : Int32) := sg_is hT (by decide) n1
    rw [if_pos e]; dsimp only
    rw [p_sign' hT hp h9, u_cw, u_nn, if_pos e]; dsimp only
    rw [hp, nI_1, u_nn]; rfl
  · have e : sgn N T p = (45 : Int32) := sg_is hT (by decide) n1
    have e' : ¬ sgn N T p = (43 : Int32) := sg_ne (d := 43) hT (by decide) (by omega)
    rw [if_neg e', p_sign' hT hp h9, u_cw, if_pos e]; dsimp only
    rw [p_sign' hT hp h9, u_cw, u_nn, if_neg e']; dsimp only
    rw [hp, nI_1, u_nn]; rfl
/-- the class's loop -/
theorem c8_F {K : Int32 → MS → Option MS} (h : wr.1 0 9 ≠ 0) {x : Int32} : lw2 (S_X3_readSum_8 G K) (m + 1) v1 x wr = K v1 wr := by
  show S_X3_readSum_8 G K _ _ _ _ = _
  unfold S_X3_readSum_8
  by_cases z : (400 : Int32) ≤ x
  · rw [if_pos z]
  · rw [if_neg z, if_neg h]
theorem rk_no {x : Int32} (h : x ≠ 43 ∧ x ≠ 45 ∧ x ≠ 42 ∧ x ≠ 47 ∧ x ≠ 37) : s_X3_isReckoning G x w = some (0, w) := by
  unfold s_X3_isReckoning
  rw [if_neg h.1, if_neg h.2.1, if_neg h.2.2.1, if_neg h.2.2.2.1, if_neg h.2.2.2.2]
theorem rk_yes {x : Int32} (h : x = 43 ∨ x = 45 ∨ x = 42 ∨ x = 47 ∨ x = 37) : s_X3_isReckoning G x w = some (1, w) := by
  unfold s_X3_isReckoning
  rcases h with rfl | rfl | rfl | rfl | rfl <;> rfl
theorem c8_no {K : Int32 → MS → Option MS} (h : wr.1 0 9 = 0) (hx : wr.1 0 7 ≠ 43 ∧ wr.1 0 7 ≠ 45 ∧ wr.1 0 7 ≠ 42 ∧ wr.1 0 7 ≠ 47 ∧ wr.1 0 7 ≠ 37) {x : Int32} : lw2 (S_X3_readSum_8 G K) (m + 1) v1 x wr = K v1 wr := by
  show S_X3_readSum_8 G K _ _ _ _ = _
  unfold S_X3_readSum_8
  by_cases z : (400 : Int32) ≤ x
  · rw [if_pos z]
  · rw [if_neg z, if_pos h, rk_no hx, u_cw, if_pos rfl]
theorem c8_op {K : Int32 → MS → Option MS} (h : wr.1 0 9 = 0) (hv : v2 < 400) {x : Int32} (e7 : wr.1 0 7 = x) (hx : x = 42 ∨ x = 47 ∨ x = 37) : lw2 (S_X3_readSum_8 G K) (m + 1) v1 (nI v2) wr = ob (s_X8_advance G wr) fun w10 => ob (s_X3_readValue G w10) fun w12 => ob (s_X3_write G (-x) w12) fun w16 => lw2 (S_X3_readSum_8 G K) m v1 (nI (v2 + 1)) w16 := by
  have a : ¬ x = 43 := by rcases hx with rfl | rfl | rfl <;> decide
  have b : ¬ x = 45 := by rcases hx with rfl | rfl | rfl <;> decide
  show S_X3_readSum_8 G K _ _ _ _ = _
  unfold S_X3_readSum_8
  rw [if_neg (show ¬ (400 : Int32) ≤ nI v2 from nI_ge (b := 400) hv (by omega)), if_pos h, e7, rk_yes (by rcases hx with q | q | q <;> simp [q]), u_cw, if_neg n10, u_nn, u_nn, u_nn, e7, if_neg a, if_neg b]
  simp only [u_nn, if_true, nI_1]
theorem c8_sg {K : Int32 → MS → Option MS} (h : wr.1 0 9 = 0) (hv : v2 < 400) {x : Int32} (e7 : wr.1 0 7 = x) (hx : x = 43 ∨ x = 45) : lw2 (S_X3_readSum_8 G K) (m + 1) v1 (nI v2) wr = ob (if v1 = 0 then some wr else s_X3_write G (-v1) wr) fun w20 => ob (s_X8_advance G w20) fun w10 => ob (s_X3_readValue G w10) fun w12 => lw2 (S_X3_readSum_8 G K) m x (nI (v2 + 1)) w12 := by
  show S_X3_readSum_8 G K _ _ _ _ = _
  unfold S_X3_readSum_8
  rw [if_neg (show ¬ (400 : Int32) ≤ nI v2 from nI_ge (b := 400) hv (by omega)), if_pos h, e7, rk_yes (by rcases hx with q | q <;> simp [q]), u_cw, if_neg n10]
  by_cases z : v1 = 0
  · rcases hx with rfl | rfl
    · simp only [u_nn, e7, if_true, if_neg n10, if_pos z, nI_1, u_ob]
    · simp only [u_nn, e7, if_true, if_neg n10, if_pos z, nI_1, u_ob, if_neg (show ¬ (45 : Int32) = 43 by decide)]
  · rcases hx with rfl | rfl
    · simp only [u_nn, e7, if_true, if_neg n10, if_neg z, nI_1]
    · simp only [u_nn, e7, if_true, if_neg n10, if_neg z, nI_1, if_neg (show ¬ (45 : Int32) = 43 by decide)]
/-- the reference, with a sign that waits -/
def RT (G : GG) (m1 m2 : Nat) (v1 : Int32) (w : MS) : Option MS := ob (lw0 (P_X12_term_8 G) m1 w) fun w1 => if v1 = 0 then lw0 (P_X12_sum_4 G) m2 w1 else ob (p_X12_entry G (scode v1) 0 w1) fun w13 => lw0 (P_X12_sum_4 G) m2 w13
def KS (G : GG) (v1 : Int32) (h : MS) : Option MS := if v1 = 0 then (some h) else ob (s_X3_write G (-v1) h) fun w25 => some w25
theorem sum_eC : s_X3_readSum G wr = ob (s_X3_readValue G wr) fun w1 => lw2 (S_X3_readSum_8 G (KS G)) bN (0 : Int32) (0 : Int32) w1 := rfl
theorem sum_eR : p_X12_sum G w = ob (p_X12_value G w) fun w1 => ob (p_X12_blanks G w1) fun w3 => RT G bN bN 0 w3 := by
  unfold p_X12_sum p_X12_term RT
  cases p_X12_value G w with
  | none => rfl
  | some a =>
    rw [u_ob, u_ob]
    cases p_X12_blanks G a with
    | none => rfl
    | some b => rw [u_ob, u_ob]; simp only [if_true]
theorem RT_F (h : w.1 0 34 ≠ 0) {m1 m2 : Nat} : RT G (m1 + 1) (m2 + 1) v1 w = some w := by
  unfold RT
  rw [t8_F h, u_ob]
  by_cases z : v1 = 0
  · rw [if_pos z, s4_F h]
  · rw [if_neg z, p_entryF h, u_ob, s4_F h]
/-- one entry more, on both sides -/
theorem one_both (hs : Syn wl N T wr w k 0) (hg : Gd r c wr w E C) (hr : w.1 0 35 = nI r ∧ r < 6) (hE : E < 300) (hc : E + c < 400) {a b y : Int32} : ∃ wr' w', s_X3_write G y wr = some wr' ∧ p_X12_entry G a b w = some w' ∧ Syn wl N T wr' w' k 0 ∧ FrR r c E wr w wr' w' ∧ Gd r c wr' w' (E + 1) C ∧ ent w'.1 r E = (a, b) ∧ wr'.1 7 (E + c) = y ∧ w'.1 0 33 = w.1 0 33 ∧ (∀ x, x < 6 → wr'.1 x = wr.1 x) ∧ (∀ j, j ≠ 37 → w'.1 0 j = w.1 0 j) ∧ w'.1 49 = w.1 49 := by
  obtain ⟨g1, g2, g3, g4, g5⟩ := hg
  refine ⟨_, _, w_write g4 hc y, p_entry0 hs.2.2.2.2.1 hr.1 g1 hr.2 hE a b, (hs.c6 (fun x hx => by rw [w_si_r (by omega), w_si_r (by omega)])).cw (fun j hj => by rw [w_si_j (by omega), w_si_r (by decide), w_si_r (by decide)]) (by rw [w_si_r (by decide), w_si_r (by decide), w_si_r (by decide)]), ⟨fun x y1 y2 y3 => by rw [w_si_r y2, w_si_r y3], fun j hj => by rw [w_si_r (by decide), w_si_r (by decide)], fun j y1 y2 => by rw [w_si_j y1, w_si_r (by decide)], fun j hj => by rw [w_si_r (by decide), w_si_j (by omega)], fun x y1 y2 y3 => by rw [w_si_r y1, w_si_r y3, w_si_r y2], fun j y1 y2 y3 y5 => by rw [w_si_j y3, w_si_r (by decide), w_si_r (by decide)], fun j hj => ?_⟩, ⟨w_si_s _ _ _ _, by rw [w_si_j (by decide), w_si_r (by decide), w_si_r (by decide)]; exact g2, by rw [w_si_j (by decide), w_si_r (by decide)]; exact g3, by rw [w_si_s, show E + 1 + c = E + c + 1 by omega], g5⟩, ?_, by rw [w_si_r (by decide), w_si_s], by rw [w_si_j (by decide), w_si_r (by decide), w_si_r (by decide)], fun x hx => by rw [w_si_r (by omega), w_si_r (by omega)], fun j hj => by rw [w_si_j hj, w_si_r (by decide), w_si_r (by decide)], by rw [w_si_r (by decide), w_si_r (by decide), w_si_r (by decide)]⟩
  · rw [w_si_r (by decide), w_si_r (by decide), w_si_j (by omega), w_si_r (by decide), w_si_j (by omega), w_si_r (by decide)]; exact ⟨rfl, rfl⟩
  · show ((w_si (w_si (w_si w 43 (300 * r + E) a) 44 (300 * r + E) b) 0 37 (nI (E + 1))).1 43 (300 * r + E), (w_si (w_si (w_si w 43 (300 * r + E) a) 44 (300 * r + E) b) 0 37 (nI (E + 1))).1 44 (300 * r + E)) = _
    rw [w_si_r (show 43 ≠ 0 by decide), w_si_r (show 43 ≠ 44 by decide), w_si_s, w_si_r (show 44 ≠ 0 by decide), w_si_s]
end
