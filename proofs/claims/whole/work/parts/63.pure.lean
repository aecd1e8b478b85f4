/-! PURE 63: the loops over people. -/
theorem fs_rel {α β : Type} {f : Nat → α → α} {g : Nat → β → β} {R : Nat → α → β → Prop} : ∀ {d k : Nat} {a : α} {b : β}, R k a b → (∀ j, k ≤ j → j < k + d → ∀ x y, R j x y → R (j + 1) (f j x) (g j y)) → R (k + d) (fs f d k a) (fs g d k b)
  | 0, _, _, _, h, _ => h
  | d + 1, k, a, b, h, hs => by
    unfold fs
    have := fs_rel (R := R) (d := d) (k := k + 1) (hs k (Nat.le_refl _) (by omega) a b h) (fun j h1 h2 => hs j (by omega) (by omega))
    rwa [show k + (d + 1) = k + 1 + d by omega]
def sumV (v : VV) : Int32 := fs (fun q a => a + v 12 q) (sN v) 0 0
def croV (v : VV) : Int32 := fs (fun q a => if v 10 q = 0 then a else if a < v 11 q then v 11 q else a) (sN v) 0 0
def craV (v : VV) : Int32 := fs (fun q a => a + if v 10 q = 0 then 0 else v 11 q) (sN v) 0 0
def sfV (v : VV) (q : Nat) (x : Int32) : Int32 := unV v q (v 9 q) x + tollV v x
def sbS (v : VV) (x : Int32) (q : Nat) (a : Int32 × Int32) : Int32 × Int32 := if v 10 q = 0 then a else (a.1 + sfV v q x, if a.2 < sfV v q x then sfV v q x else a.2)
def sbV (v : VV) (x : Int32) : Int32 × Int32 := fs (sbS v x) (sN v) 0 (0, 0)
def bitV (v : VV) : Int32 := fs (fun q a => a ||| if v 10 q = 0 then 0 else (1 : Int32) <<< (nI q &&& 31)) (sN v) 0 0
def cntV (v : VV) : Int32 := fs (fun q a => a + v 10 q) (sN v) 0 0
def sitV (v : VV) (s : Int32) : Int32 := match ff (fun q => decide (v 9 q = s)) (sN v) 0 with | some q => nI q | none => -1
def soonS (v : VV) (m : Int32) (k : Nat) (a : Int32) : Int32 := if v 13 k ≤ m then a else if v 13 k < a then v 13 k else a
def soonV (v : VV) (m : Int32) : Int32 := if fs (soonS v m) (sT v) 0 240 = 240 then 99 else fs (soonS v m) (sT v) 0 240 - m
section
variable {G : GG} {h : AH} {w : MS} {c t q : Nat} {v : VV}
theorem bN8 (hS : St v) : sN v < bN := bN_gt (by have := st_N8 hS; omega)
theorem c_sufferedByAll (hC : Cab h c t v) (hS : St v) : f_X0_sufferedByAll G c h = some (sumV v, h) := by
  unfold f_X0_sufferedByAll
  show lq2 (F_X0_sufferedByAll_4 G c) bN 0 (nI 0) h = _
  refine lq2_fs (N := sN v) (fun q a => a + v 12 q) (fun a => some (a, h)) ?_ ?_ (d := sN v) (Nat.zero_add _) (bN8 hS)
  · intro self a
    unfold F_X0_sufferedByAll_4
    simp only [u_nn, u_ob, u_cb, u_cw, u_ck, on_s, on_n, cab_t hC, cab_0 hC, cab_6 hC, cab_7 hC, cab_8 hC, cab_9 hC, tr_t hC, tr_6 hC, tr_8 hC, tr_9 hC, tr_11 hC, tr_12 hC, tr_13 hC, cab_i2 hC, cab_i3 hC, cab_i4 hC, tr_i0 hC, tr_i1 hC, tr_i2 hC, tr_i3 hC, tr_i4 hC, tr_i5 hC, tr_i7 hC, tr_i10 hC, nle_N hS, if_true]
  · intro self a q hq
    unfold F_X0_sufferedByAll_4
    simp only [u_nn, u_ob, u_cb, u_cw, u_ck, on_s, on_n, cab_t hC, cab_0 hC, cab_6 hC, cab_7 hC, cab_8 hC, cab_9 hC, tr_t hC, tr_6 hC, tr_8 hC, tr_9 hC, tr_11 hC, tr_12 hC, tr_13 hC, cab_i2 hC, cab_i3 hC, cab_i4 hC, tr_i0 hC, tr_i1 hC, tr_i2 hC, tr_i3 hC, tr_i4 hC, tr_i5 hC, tr_i7 hC, tr_i10 hC, q8 hS hq, qc hS hq, cab_x1 hC hS hq, cab_x2 hC hS hq, cab_x3 hC hS hq, cab_x4 hC hS hq, cab_v1 hC hq, cab_v2 hC hq, cab_v3 hC hq, cab_v4 hC hq, tr_x1 hC hS hq, tr_rq hC hS hq, tr_tq hC hS hq, tr_q0 hC hq, tr_q1 hC hq, tr_q2 hC hq, tr_q3 hC hq, tr_q4 hC hq, tr_q6 hC hq, nle_q hS hq, if_false]
theorem p_sufferedAll (hS : St w.1) : p_X12_sufferedAll G w = some (sumV w.1, w) := by
  unfold p_X12_sufferedAll
  show lw2 (P_X12_sufferedAll_4 G) bN 0 (nI 0) w = _
  refine lw2_fs (N := sN w.1) (fun q a => a + w.1 12 q) (fun a => some (a, w)) ?_ ?_ (d := sN w.1) (Nat.zero_add _) (bN8 hS)
  · intro self a
    unfold P_X12_sufferedAll_4
    simp only [u_nn, u_ob, u_cb, u_cw, u_ck, on_s, on_n, ix_1_0, ix_7_0, ix_10_0, ix_10_1, ix_10_2, ix_10_3, ix_10_4, ix_10_5, ix_10_6, ix_10_7, ix_10_8, ix_10_9, ix_13_0, ix_13_1, ix_13_2, ix_13_3, ix_13_4, ix_13_5, ix_13_6, ix_13_7, ix_13_8, ix_13_9, ix_13_10, ix_13_11, ix_13_12, ix_17_0, ix_17_1, ix_17_2, ix_17_3, ix_17_4, ix_17_6, ix_17_7, ix_17_8, ix_17_9, ix_17_10, ix_17_11, ix_17_12, ix_17_13, ix_17_14, ix_17_15, ix_17_16, ix_256_0, ix_300_0, tn_0, tn_1, tn_2, tn_3, tn_4, tn_5, tn_6, tn_7, tn_8, tn_9, tn_10, tn_11, tn_12, tn_13, tn_14, tn_15, tn_16, tn_366, nle_N hS, if_true]
  · intro self a q hq
    unfold P_X12_sufferedAll_4
    simp only [u_nn, u_ob, u_cb, u_cw, u_ck, on_s, on_n, ix_1_0, ix_7_0, ix_10_0, ix_10_1, ix_10_2, ix_10_3, ix_10_4, ix_10_5, ix_10_6, ix_10_7, ix_10_8, ix_10_9, ix_13_0, ix_13_1, ix_13_2, ix_13_3, ix_13_4, ix_13_5, ix_13_6, ix_13_7, ix_13_8, ix_13_9, ix_13_10, ix_13_11, ix_13_12, ix_17_0, ix_17_1, ix_17_2, ix_17_3, ix_17_4, ix_17_6, ix_17_7, ix_17_8, ix_17_9, ix_17_10, ix_17_11, ix_17_12, ix_17_13, ix_17_14, ix_17_15, ix_17_16, ix_256_0, ix_300_0, tn_0, tn_1, tn_2, tn_3, tn_4, tn_5, tn_6, tn_7, tn_8, tn_9, tn_10, tn_11, tn_12, tn_13, tn_14, tn_15, tn_16, tn_366, q8 hS hq, qc hS hq, nle_q hS hq, if_false]
theorem c_crossnessOfAll (hC : Cab h c t v) (hS : St v) (hA : Ab v) : f_X0_crossnessOfAll G c h = some (craV v, h) := by
  unfold f_X0_crossnessOfAll
  show lq2 (F_X0_crossnessOfAll_4 G c) bN 0 (nI 0) h = _
  refine lq2_fs (N := sN v) (fun q a => a + if v 10 q = 0 then 0 else v 11 q) (fun a => some (a, h)) ?_ ?_ (d := sN v) (Nat.zero_add _) (bN8 hS)
  · intro self a
    unfold F_X0_crossnessOfAll_4
    simp only [u_nn, u_ob, u_cb, u_cw, u_ck, on_s, on_n, cab_t hC, cab_0 hC, cab_6 hC, cab_7 hC, cab_8 hC, cab_9 hC, tr_t hC, tr_6 hC, tr_8 hC, tr_9 hC, tr_11 hC, tr_12 hC, tr_13 hC, cab_i2 hC, cab_i3 hC, cab_i4 hC, tr_i0 hC, tr_i1 hC, tr_i2 hC, tr_i3 hC, tr_i4 hC, tr_i5 hC, tr_i7 hC, tr_i10 hC, nle_N hS, if_true]
  · intro self a q hq
    unfold F_X0_crossnessOfAll_4
    simp only [u_nn, u_ob, u_cb, u_cw, u_ck, on_s, on_n, cab_t hC, cab_0 hC, cab_6 hC, cab_7 hC, cab_8 hC, cab_9 hC, tr_t hC, tr_6 hC, tr_8 hC, tr_9 hC, tr_11 hC, tr_12 hC, tr_13 hC, cab_i2 hC, cab_i3 hC, cab_i4 hC, tr_i0 hC, tr_i1 hC, tr_i2 hC, tr_i3 hC, tr_i4 hC, tr_i5 hC, tr_i7 hC, tr_i10 hC, q8 hS hq, qc hS hq, cab_x1 hC hS hq, cab_x2 hC hS hq, cab_x3 hC hS hq, cab_x4 hC hS hq, cab_v1 hC hq, cab_v2 hC hq, cab_v3 hC hq, cab_v4 hC hq, tr_x1 hC hS hq, tr_rq hC hS hq, tr_tq hC hS hq, tr_q0 hC hq, tr_q1 hC hq, tr_q2 hC hq, tr_q3 hC hq, tr_q4 hC hq, tr_q6 hC hq, nle_q hS hq, if_false, c_isAboard hC hS hA hq]
    by_cases e : v 10 q = 0 <;> simp only [e, if_true, if_false]
theorem p_crossAll (hS : St w.1) : p_X12_crossAll G w = some (craV w.1, w) := by
  unfold p_X12_crossAll
  show lw2 (P_X12_crossAll_4 G) bN 0 (nI 0) w = _
  refine lw2_fs (N := sN w.1) (fun q a => a + if w.1 10 q = 0 then 0 else w.1 11 q) (fun a => some (a, w)) ?_ ?_ (d := sN w.1) (Nat.zero_add _) (bN8 hS)
  · intro self a
    unfold P_X12_crossAll_4
    simp only [u_nn, u_ob, u_cb, u_cw, u_ck, on_s, on_n, ix_1_0, ix_7_0, ix_10_0, ix_10_1, ix_10_2, ix_10_3, ix_10_4, ix_10_5, ix_10_6, ix_10_7, ix_10_8, ix_10_9, ix_13_0, ix_13_1, ix_13_2, ix_13_3, ix_13_4, ix_13_5, ix_13_6, ix_13_7, ix_13_8, ix_13_9, ix_13_10, ix_13_11, ix_13_12, ix_17_0, ix_17_1, ix_17_2, ix_17_3, ix_17_4, ix_17_6, ix_17_7, ix_17_8, ix_17_9, ix_17_10, ix_17_11, ix_17_12, ix_17_13, ix_17_14, ix_17_15, ix_17_16, ix_256_0, ix_300_0, tn_0, tn_1, tn_2, tn_3, tn_4, tn_5, tn_6, tn_7, tn_8, tn_9, tn_10, tn_11, tn_12, tn_13, tn_14, tn_15, tn_16, tn_366, nle_N hS, if_true]
  · intro self a q hq
    unfold P_X12_crossAll_4
    simp only [u_nn, u_ob, u_cb, u_cw, u_ck, on_s, on_n, ix_1_0, ix_7_0, ix_10_0, ix_10_1, ix_10_2, ix_10_3, ix_10_4, ix_10_5, ix_10_6, ix_10_7, ix_10_8, ix_10_9, ix_13_0, ix_13_1, ix_13_2, ix_13_3, ix_13_4, ix_13_5, ix_13_6, ix_13_7, ix_13_8, ix_13_9, ix_13_10, ix_13_11, ix_13_12, ix_17_0, ix_17_1, ix_17_2, ix_17_3, ix_17_4, ix_17_6, ix_17_7, ix_17_8, ix_17_9, ix_17_10, ix_17_11, ix_17_12, ix_17_13, ix_17_14, ix_17_15, ix_17_16, ix_256_0, ix_300_0, tn_0, tn_1, tn_2, tn_3, tn_4, tn_5, tn_6, tn_7, tn_8, tn_9, tn_10, tn_11, tn_12, tn_13, tn_14, tn_15, tn_16, tn_366, q8 hS hq, qc hS hq, nle_q hS hq, if_false, p_rides hS hq]
    by_cases e : w.1 10 q = 0 <;> simp only [e, if_true, if_false]
theorem c_greatestCrossness (hC : Cab h c t v) (hS : St v) (hA : Ab v) : f_X0_greatestCrossness G c h = some (croV v, h) := by
  unfold f_X0_greatestCrossness
  show lq2 (F_X0_greatestCrossness_4 G c) bN 0 (nI 0) h = _
  refine lq2_fs (N := sN v) (fun q a => if v 10 q = 0 then a else if a < v 11 q then v 11 q else a) (fun a => some (a, h)) ?_ ?_ (d := sN v) (Nat.zero_add _) (bN8 hS)
  · intro self a
    unfold F_X0_greatestCrossness_4
    simp only [u_nn, u_ob, u_cb, u_cw, u_ck, on_s, on_n, cab_t hC, cab_0 hC, cab_6 hC, cab_7 hC, cab_8 hC, cab_9 hC, tr_t hC, tr_6 hC, tr_8 hC, tr_9 hC, tr_11 hC, tr_12 hC, tr_13 hC, cab_i2 hC, cab_i3 hC, cab_i4 hC, tr_i0 hC, tr_i1 hC, tr_i2 hC, tr_i3 hC, tr_i4 hC, tr_i5 hC, tr_i7 hC, tr_i10 hC, nle_N hS, if_true]
  · intro self a q hq
    unfold F_X0_greatestCrossness_4
    simp only [u_nn, u_ob, u_cb, u_cw, u_ck, on_s, on_n, cab_t hC, cab_0 hC, cab_6 hC, cab_7 hC, cab_8 hC, cab_9 hC, tr_t hC, tr_6 hC, tr_8 hC, tr_9 hC, tr_11 hC, tr_12 hC, tr_13 hC, cab_i2 hC, cab_i3 hC, cab_i4 hC, tr_i0 hC, tr_i1 hC, tr_i2 hC, tr_i3 hC, tr_i4 hC, tr_i5 hC, tr_i7 hC, tr_i10 hC, q8 hS hq, qc hS hq, cab_x1 hC hS hq, cab_x2 hC hS hq, cab_x3 hC hS hq, cab_x4 hC hS hq, cab_v1 hC hq, cab_v2 hC hq, cab_v3 hC hq, cab_v4 hC hq, tr_x1 hC hS hq, tr_rq hC hS hq, tr_tq hC hS hq, tr_q0 hC hq, tr_q1 hC hq, tr_q2 hC hq, tr_q3 hC hq, tr_q4 hC hq, tr_q6 hC hq, nle_q hS hq, if_false, c_isAboard hC hS hA hq]
    by_cases e : v 10 q = 0 <;> simp only [e, if_true, if_false]
theorem p_crossest (hS : St w.1) : p_X12_crossest G w = some (croV w.1, w) := by
  unfold p_X12_crossest
  show lw2 (P_X12_crossest_4 G) bN 0 (nI 0) w = _
  refine lw2_fs (N := sN w.1) (fun q a => if w.1 10 q = 0 then a else if a < w.1 11 q then w.1 11 q else a) (fun a => some (a, w)) ?_ ?_ (d := sN w.1) (Nat.zero_add _) (bN8 hS)
  · intro self a
    unfold P_X12_crossest_4
    simp only [u_nn, u_ob, u_cb, u_cw, u_ck, on_s, on_n, ix_1_0, ix_7_0, ix_10_0, ix_10_1, ix_10_2, ix_10_3, ix_10_4, ix_10_5, ix_10_6, ix_10_7, ix_10_8, ix_10_9, ix_13_0, ix_13_1, ix_13_2, ix_13_3, ix_13_4, ix_13_5, ix_13_6, ix_13_7, ix_13_8, ix_13_9, ix_13_10, ix_13_11, ix_13_12, ix_17_0, ix_17_1, ix_17_2, ix_17_3, ix_17_4, ix_17_6, ix_17_7, ix_17_8, ix_17_9, ix_17_10, ix_17_11, ix_17_12, ix_17_13, ix_17_14, ix_17_15, ix_17_16, ix_256_0, ix_300_0, tn_0, tn_1, tn_2, tn_3, tn_4, tn_5, tn_6, tn_7, tn_8, tn_9, tn_10, tn_11, tn_12, tn_13, tn_14, tn_15, tn_16, tn_366, nle_N hS, if_true]
  · intro self a q hq
    unfold P_X12_crossest_4
    simp only [u_nn, u_ob, u_cb, u_cw, u_ck, on_s, on_n, ix_1_0, ix_7_0, ix_10_0, ix_10_1, ix_10_2, ix_10_3, ix_10_4, ix_10_5, ix_10_6, ix_10_7, ix_10_8, ix_10_9, ix_13_0, ix_13_1, ix_13_2, ix_13_3, ix_13_4, ix_13_5, ix_13_6, ix_13_7, ix_13_8, ix_13_9, ix_13_10, ix_13_11, ix_13_12, ix_17_0, ix_17_1, ix_17_2, ix_17_3, ix_17_4, ix_17_6, ix_17_7, ix_17_8, ix_17_9, ix_17_10, ix_17_11, ix_17_12, ix_17_13, ix_17_14, ix_17_15, ix_17_16, ix_256_0, ix_300_0, tn_0, tn_1, tn_2, tn_3, tn_4, tn_5, tn_6, tn_7, tn_8, tn_9, tn_10, tn_11, tn_12, tn_13, tn_14, tn_15, tn_16, tn_366, q8 hS hq, qc hS hq, nle_q hS hq, if_false, p_rides hS hq]
    by_cases e : w.1 10 q = 0
    · simp only [e, if_true]
    · simp only [e, if_false, if_nlt]
      by_cases e2 : w.1 11 q ≤ a <;> simp only [e2, if_true, if_false]
theorem c_sufferingBy (hC : Cab h c t v) (hS : St v) (hA : Ab v) (x b : Int32) : f_X0_sufferingBy G c x b h = some (if b = 0 then (sbV v x).1 else (sbV v x).2, h) := by
  unfold f_X0_sufferingBy
  refine (show _ = lq3 (F_X0_sufferingBy_8 G c x b _) bN 0 0 (nI 0) h from rfl).trans ?_
  rw [lq3_fs (N := sN v) (sbS v x) (fun a => some (if b = 0 then a.1 else a.2, h)) ?_ ?_ (d := sN v) (Nat.zero_add _) (bN8 hS)]
  · rfl
  · intro self a a2
    unfold F_X0_sufferingBy_8
    simp only [u_nn, u_ob, u_cb, u_cw, u_ck, on_s, on_n, cab_t hC, cab_0 hC, cab_6 hC, cab_7 hC, cab_8 hC, cab_9 hC, tr_t hC, tr_6 hC, tr_8 hC, tr_9 hC, tr_11 hC, tr_12 hC, tr_13 hC, cab_i2 hC, cab_i3 hC, cab_i4 hC, tr_i0 hC, tr_i1 hC, tr_i2 hC, tr_i3 hC, tr_i4 hC, tr_i5 hC, tr_i7 hC, tr_i10 hC, nle_N hS, if_true]
    by_cases e : b = 0 <;> simp only [e, if_true, if_false]
  · intro self a a2 q hq
    unfold F_X0_sufferingBy_8 sbS
    simp only [u_nn, u_ob, u_cb, u_cw, u_ck, on_s, on_n, cab_t hC, cab_0 hC, cab_6 hC, cab_7 hC, cab_8 hC, cab_9 hC, tr_t hC, tr_6 hC, tr_8 hC, tr_9 hC, tr_11 hC, tr_12 hC, tr_13 hC, cab_i2 hC, cab_i3 hC, cab_i4 hC, tr_i0 hC, tr_i1 hC, tr_i2 hC, tr_i3 hC, tr_i4 hC, tr_i5 hC, tr_i7 hC, tr_i10 hC, q8 hS hq, qc hS hq, cab_x1 hC hS hq, cab_x2 hC hS hq, cab_x3 hC hS hq, cab_x4 hC hS hq, cab_v1 hC hq, cab_v2 hC hq, cab_v3 hC hq, cab_v4 hC hq, tr_x1 hC hS hq, tr_rq hC hS hq, tr_tq hC hS hq, tr_q0 hC hq, tr_q1 hC hq, tr_q2 hC hq, tr_q3 hC hq, tr_q4 hC hq, tr_q6 hC hq, nle_q hS hq, if_false, c_isAboard hC hS hA hq, c_sufferingOf hC hS hq]
    by_cases e : v 10 q = 0
    · simp only [e, if_true]
    · simp only [e, if_false]; rfl
theorem sb_nn (v : VV) (x : Int32) (n : Nat) : (0 : Int32) ≤ (fs (sbS v x) n 0 ((0 : Int32), (0 : Int32))).2 := by
  refine fs_inv (P := fun _ (a : Int32 × Int32) => (0 : Int32) ≤ a.2) (show (0 : Int32) ≤ 0 by decide) ?_
  intro j _ _ a ha
  unfold sbS
  by_cases e : v 10 j = 0
  · rw [if_pos e]; exact ha
  · rw [if_neg e]
    by_cases e2 : a.2 < sfV v j x
    · show (0 : Int32) ≤ (if a.2 < sfV v j x then sfV v j x else a.2)
      rw [if_pos e2]; rw [I_lt] at e2; rw [I_le] at ha ⊢; omega
    · show (0 : Int32) ≤ (if a.2 < sfV v j x then sfV v j x else a.2)
      rw [if_neg e2]; exact ha
theorem p_sufferNow (hS : St w.1) (x b : Int32) : p_X12_sufferNow G x b w = some (if b = 0 then (sbV w.1 x).1 else (sbV w.1 x).2, w) := by
  unfold p_X12_sufferNow
  refine (show _ = lw3 (P_X12_sufferNow_8 G x b _) bN 0 0 (nI 0) w from rfl).trans ?_
  have e0 : fs (fun q (a : Int32 × Int32) => if w.1 10 q = 0 then (a.1 + 0, if 0 ≤ a.2 then a.2 else 0) else (a.1 + sfV w.1 q x, if sfV w.1 q x ≤ a.2 then a.2 else sfV w.1 q x)) (sN w.1) 0 ((0 : Int32), (0 : Int32)) = sbV w.1 x := by
    refine (fs_rel (R := fun j a b => a = b ∧ (0 : Int32) ≤ b.2) (k := 0) (d := sN w.1) ⟨rfl, by decide⟩ ?_).1
    intro j _ _ a a2 ⟨e, h0⟩
    subst e
    unfold sbS
    by_cases e : w.1 10 j = 0
    · simp only [e, if_true, h0, Int32.add_zero]; exact ⟨trivial, trivial⟩
    · simp only [e, if_false, if_nlt]
      refine ⟨trivial, ?_⟩
      by_cases e2 : sfV w.1 j x ≤ a.2
      · simp only [e2, if_true]; exact h0
      · simp only [e2, if_false]; rw [I_le] at e2 h0 ⊢; omega
  rw [lw3_fs (N := sN w.1) _ (fun a => some (if b = 0 then a.1 else a.2, w)) ?_ ?_ (d := sN w.1) (Nat.zero_add _) (bN8 hS), e0]
  · intro self a a2
    unfold P_X12_sufferNow_8
    simp only [u_nn, u_ob, u_cb, u_cw, u_ck, on_s, on_n, ix_1_0, ix_7_0, ix_10_0, ix_10_1, ix_10_2, ix_10_3, ix_10_4, ix_10_5, ix_10_6, ix_10_7, ix_10_8, ix_10_9, ix_13_0, ix_13_1, ix_13_2, ix_13_3, ix_13_4, ix_13_5, ix_13_6, ix_13_7, ix_13_8, ix_13_9, ix_13_10, ix_13_11, ix_13_12, ix_17_0, ix_17_1, ix_17_2, ix_17_3, ix_17_4, ix_17_6, ix_17_7, ix_17_8, ix_17_9, ix_17_10, ix_17_11, ix_17_12, ix_17_13, ix_17_14, ix_17_15, ix_17_16, ix_256_0, ix_300_0, tn_0, tn_1, tn_2, tn_3, tn_4, tn_5, tn_6, tn_7, tn_8, tn_9, tn_10, tn_11, tn_12, tn_13, tn_14, tn_15, tn_16, tn_366, nle_N hS, if_true]
    by_cases e : b = 0 <;> simp only [e, if_true, if_false]
  · intro self a a2 q hq
    unfold P_X12_sufferNow_8
    simp only [u_nn, u_ob, u_cb, u_cw, u_ck, on_s, on_n, ix_1_0, ix_7_0, ix_10_0, ix_10_1, ix_10_2, ix_10_3, ix_10_4, ix_10_5, ix_10_6, ix_10_7, ix_10_8, ix_10_9, ix_13_0, ix_13_1, ix_13_2, ix_13_3, ix_13_4, ix_13_5, ix_13_6, ix_13_7, ix_13_8, ix_13_9, ix_13_10, ix_13_11, ix_13_12, ix_17_0, ix_17_1, ix_17_2, ix_17_3, ix_17_4, ix_17_6, ix_17_7, ix_17_8, ix_17_9, ix_17_10, ix_17_11, ix_17_12, ix_17_13, ix_17_14, ix_17_15, ix_17_16, ix_256_0, ix_300_0, tn_0, tn_1, tn_2, tn_3, tn_4, tn_5, tn_6, tn_7, tn_8, tn_9, tn_10, tn_11, tn_12, tn_13, tn_14, tn_15, tn_16, tn_366, q8 hS hq, qc hS hq, nle_q hS hq, if_false, p_rides hS hq, p_suffersBy hS hq]
    by_cases e : w.1 10 q = 0
    · simp only [e, if_true]
      by_cases e2 : (0 : Int32) ≤ a2 <;> simp only [e2, if_true, if_false]
    · simp only [e, if_false]
      show _ = self (a + sfV w.1 q x) (if sfV w.1 q x ≤ a2 then a2 else sfV w.1 q x) (nI q + 1) w
      unfold sfV
      by_cases e2 : unV w.1 q (w.1 9 q) x + tollV w.1 x ≤ a2 <;> simp only [e2, if_true, if_false]
theorem c_aboardBits (hC : Cab h c t v) (hS : St v) (hA : Ab v) : f_X0_aboardBits G c h = some (bitV v, h) := by
  unfold f_X0_aboardBits
  show lq2 (F_X0_aboardBits_4 G c) bN 0 (nI 0) h = _
  refine lq2_fs (N := sN v) (fun q a => a ||| if v 10 q = 0 then 0 else (1 : Int32) <<< (nI q &&& 31)) (fun a => some (a, h)) ?_ ?_ (d := sN v) (Nat.zero_add _) (bN8 hS)
  · intro self a
    unfold F_X0_aboardBits_4
    simp only [u_nn, u_ob, u_cb, u_cw, u_ck, on_s, on_n, cab_t hC, cab_0 hC, cab_6 hC, cab_7 hC, cab_8 hC, cab_9 hC, tr_t hC, tr_6 hC, tr_8 hC, tr_9 hC, tr_11 hC, tr_12 hC, tr_13 hC, cab_i2 hC, cab_i3 hC, cab_i4 hC, tr_i0 hC, tr_i1 hC, tr_i2 hC, tr_i3 hC, tr_i4 hC, tr_i5 hC, tr_i7 hC, tr_i10 hC, nle_N hS, if_true]
  · intro self a q hq
    unfold F_X0_aboardBits_4
    simp only [u_nn, u_ob, u_cb, u_cw, u_ck, on_s, on_n, cab_t hC, cab_0 hC, cab_6 hC, cab_7 hC, cab_8 hC, cab_9 hC, tr_t hC, tr_6 hC, tr_8 hC, tr_9 hC, tr_11 hC, tr_12 hC, tr_13 hC, cab_i2 hC, cab_i3 hC, cab_i4 hC, tr_i0 hC, tr_i1 hC, tr_i2 hC, tr_i3 hC, tr_i4 hC, tr_i5 hC, tr_i7 hC, tr_i10 hC, q8 hS hq, qc hS hq, cab_x1 hC hS hq, cab_x2 hC hS hq, cab_x3 hC hS hq, cab_x4 hC hS hq, cab_v1 hC hq, cab_v2 hC hq, cab_v3 hC hq, cab_v4 hC hq, tr_x1 hC hS hq, tr_rq hC hS hq, tr_tq hC hS hq, tr_q0 hC hq, tr_q1 hC hq, tr_q2 hC hq, tr_q3 hC hq, tr_q4 hC hq, tr_q6 hC hq, nle_q hS hq, if_false, c_isAboard hC hS hA hq]
    by_cases e : v 10 q = 0 <;> simp only [e, if_true, if_false]
theorem sh0 : ∀ k : Nat, k < 8 → (0 : Int32) <<< (nI k &&& 31) = 0 := by decide
theorem p_ridersSet (hS : St w.1) : p_X12_ridersSet G w = some (bitV w.1, w) := by
  unfold p_X12_ridersSet
  show lw2 (P_X12_ridersSet_4 G) bN 0 (nI 0) w = _
  refine lw2_fs (N := sN w.1) (fun q a => a ||| if w.1 10 q = 0 then 0 else (1 : Int32) <<< (nI q &&& 31)) (fun a => some (a, w)) ?_ ?_ (d := sN w.1) (Nat.zero_add _) (bN8 hS)
  · intro self a
    unfold P_X12_ridersSet_4
    simp only [u_nn, u_ob, u_cb, u_cw, u_ck, on_s, on_n, ix_1_0, ix_7_0, ix_10_0, ix_10_1, ix_10_2, ix_10_3, ix_10_4, ix_10_5, ix_10_6, ix_10_7, ix_10_8, ix_10_9, ix_13_0, ix_13_1, ix_13_2, ix_13_3, ix_13_4, ix_13_5, ix_13_6, ix_13_7, ix_13_8, ix_13_9, ix_13_10, ix_13_11, ix_13_12, ix_17_0, ix_17_1, ix_17_2, ix_17_3, ix_17_4, ix_17_6, ix_17_7, ix_17_8, ix_17_9, ix_17_10, ix_17_11, ix_17_12, ix_17_13, ix_17_14, ix_17_15, ix_17_16, ix_256_0, ix_300_0, tn_0, tn_1, tn_2, tn_3, tn_4, tn_5, tn_6, tn_7, tn_8, tn_9, tn_10, tn_11, tn_12, tn_13, tn_14, tn_15, tn_16, tn_366, nle_N hS, if_true]
  · intro self a q hq
    unfold P_X12_ridersSet_4
    simp only [u_nn, u_ob, u_cb, u_cw, u_ck, on_s, on_n, ix_1_0, ix_7_0, ix_10_0, ix_10_1, ix_10_2, ix_10_3, ix_10_4, ix_10_5, ix_10_6, ix_10_7, ix_10_8, ix_10_9, ix_13_0, ix_13_1, ix_13_2, ix_13_3, ix_13_4, ix_13_5, ix_13_6, ix_13_7, ix_13_8, ix_13_9, ix_13_10, ix_13_11, ix_13_12, ix_17_0, ix_17_1, ix_17_2, ix_17_3, ix_17_4, ix_17_6, ix_17_7, ix_17_8, ix_17_9, ix_17_10, ix_17_11, ix_17_12, ix_17_13, ix_17_14, ix_17_15, ix_17_16, ix_256_0, ix_300_0, tn_0, tn_1, tn_2, tn_3, tn_4, tn_5, tn_6, tn_7, tn_8, tn_9, tn_10, tn_11, tn_12, tn_13, tn_14, tn_15, tn_16, tn_366, q8 hS hq, qc hS hq, nle_q hS hq, if_false]
    rcases ab01 hS hq with e | e
    · rw [e, if_pos rfl, sh0 q (by have := st_N8 hS; omega)]
    · rw [e, if_neg (by decide)]
theorem p_ridersMany (hS : St w.1) : p_X12_ridersMany G w = some (cntV w.1, w) := by
  unfold p_X12_ridersMany
  show lw2 (P_X12_ridersMany_4 G) bN 0 (nI 0) w = _
  refine lw2_fs (N := sN w.1) (fun q a => a + w.1 10 q) (fun a => some (a, w)) ?_ ?_ (d := sN w.1) (Nat.zero_add _) (bN8 hS)
  · intro self a
    unfold P_X12_ridersMany_4
    simp only [u_nn, u_ob, u_cb, u_cw, u_ck, on_s, on_n, ix_1_0, ix_7_0, ix_10_0, ix_10_1, ix_10_2, ix_10_3, ix_10_4, ix_10_5, ix_10_6, ix_10_7, ix_10_8, ix_10_9, ix_13_0, ix_13_1, ix_13_2, ix_13_3, ix_13_4, ix_13_5, ix_13_6, ix_13_7, ix_13_8, ix_13_9, ix_13_10, ix_13_11, ix_13_12, ix_17_0, ix_17_1, ix_17_2, ix_17_3, ix_17_4, ix_17_6, ix_17_7, ix_17_8, ix_17_9, ix_17_10, ix_17_11, ix_17_12, ix_17_13, ix_17_14, ix_17_15, ix_17_16, ix_256_0, ix_300_0, tn_0, tn_1, tn_2, tn_3, tn_4, tn_5, tn_6, tn_7, tn_8, tn_9, tn_10, tn_11, tn_12, tn_13, tn_14, tn_15, tn_16, tn_366, nle_N hS, if_true]
  · intro self a q hq
    unfold P_X12_ridersMany_4
    simp only [u_nn, u_ob, u_cb, u_cw, u_ck, on_s, on_n, ix_1_0, ix_7_0, ix_10_0, ix_10_1, ix_10_2, ix_10_3, ix_10_4, ix_10_5, ix_10_6, ix_10_7, ix_10_8, ix_10_9, ix_13_0, ix_13_1, ix_13_2, ix_13_3, ix_13_4, ix_13_5, ix_13_6, ix_13_7, ix_13_8, ix_13_9, ix_13_10, ix_13_11, ix_13_12, ix_17_0, ix_17_1, ix_17_2, ix_17_3, ix_17_4, ix_17_6, ix_17_7, ix_17_8, ix_17_9, ix_17_10, ix_17_11, ix_17_12, ix_17_13, ix_17_14, ix_17_15, ix_17_16, ix_256_0, ix_300_0, tn_0, tn_1, tn_2, tn_3, tn_4, tn_5, tn_6, tn_7, tn_8, tn_9, tn_10, tn_11, tn_12, tn_13, tn_14, tn_15, tn_16, tn_366, q8 hS hq, qc hS hq, nle_q hS hq, if_false]
def bcI (x : Int32) : Int32 :=
  let a := x - (((x.toUInt32 >>> ((1 : Int32).toUInt32 &&& Int32.toUInt32 31)).toInt32) &&& (1431655765 : Int32))
  let b := (a &&& (858993459 : Int32)) + (((a.toUInt32 >>> ((2 : Int32).toUInt32 &&& Int32.toUInt32 31)).toInt32) &&& (858993459 : Int32))
  let d := (b + ((b.toUInt32 >>> ((4 : Int32).toUInt32 &&& Int32.toUInt32 31)).toInt32)) &&& (252645135 : Int32)
  let e := d + ((d.toUInt32 >>> ((8 : Int32).toUInt32 &&& Int32.toUInt32 31)).toInt32)
  let f := e + ((e.toUInt32 >>> ((16 : Int32).toUInt32 &&& Int32.toUInt32 31)).toInt32)
  f &&& (63 : Int32)
theorem c_bitCount (x : Int32) : f_J6_bitCount_0f7a4 G x h = some (bcI x, h) := rfl
theorem bc_or : ∀ k : Nat, k < 8 → ∀ n : Nat, n < 2 ^ k → nI n ||| ((1 : Int32) <<< (nI k &&& 31)) = nI (n + 2 ^ k) ∧ bcI (nI (n + 2 ^ k)) = bcI (nI n) + 1 := by decide +kernel
theorem bit_cnt (hS : St v) : ∃ n : Nat, n < 2 ^ sN v ∧ bitV v = nI n ∧ bcI (bitV v) = cntV v := by
  have : (fun (j : Nat) (a b : Int32) => ∃ n : Nat, n < 2 ^ j ∧ a = nI n ∧ bcI a = b) (0 + sN v) (bitV v) (cntV v) := by
    refine fs_rel (R := fun (j : Nat) (a b : Int32) => ∃ n : Nat, n < 2 ^ j ∧ a = nI n ∧ bcI a = b) ⟨0, by decide, by decide, by decide⟩ ?_
    intro j _ hj a b ⟨n, h1, h2, h3⟩
    have hj8 : j < 8 := by have := st_N8 hS; omega
    rcases ab01 hS (q := j) (by omega) with e | e
    · refine ⟨n, by rw [Nat.pow_succ]; omega, ?_, ?_⟩
      · rw [if_pos e, Int32.or_zero, h2]
      · rw [if_pos e, Int32.or_zero, e, Int32.add_zero, h3]
    · have h4 := bc_or j hj8 n h1
      refine ⟨n + 2 ^ j, by rw [Nat.pow_succ]; omega, ?_, ?_⟩
      · rw [if_neg (by rw [e]; decide), h2, h4.1]
      · rw [if_neg (by rw [e]; decide), h2, h4.1, h4.2, ← h2, h3, e]
  rw [Nat.zero_add] at this
  exact this
theorem c_sitterOf (hC : Cab h c t v) (hS : St v) (s : Int32) : f_X0_sitterOf G c s h = some (sitV v s, h) := by
  unfold f_X0_sitterOf
  show lq1 (F_X0_sitterOf_2 G c s) bN (nI 0) h = _
  rw [lq1_ff (N := sN v) (fun q => decide (v 9 q = s)) (fun q => some (nI q, h)) (some (-1, h)) ?_ ?_ ?_ (d := sN v) (Nat.zero_add _) (bN8 hS)]
  · unfold sitV
    cases ff (fun q => decide (v 9 q = s)) (sN v) 0 <;> rfl
  · intro self
    unfold F_X0_sitterOf_2
    simp only [u_nn, u_ob, u_cb, u_cw, u_ck, on_s, on_n, cab_t hC, cab_0 hC, cab_6 hC, cab_7 hC, cab_8 hC, cab_9 hC, tr_t hC, tr_6 hC, tr_8 hC, tr_9 hC, tr_11 hC, tr_12 hC, tr_13 hC, cab_i2 hC, cab_i3 hC, cab_i4 hC, tr_i0 hC, tr_i1 hC, tr_i2 hC, tr_i3 hC, tr_i4 hC, tr_i5 hC, tr_i7 hC, tr_i10 hC, nle_N hS, if_true]
  · intro self q hq hp
    unfold F_X0_sitterOf_2
    simp only [u_nn, u_ob, u_cb, u_cw, u_ck, on_s, on_n, cab_t hC, cab_0 hC, cab_6 hC, cab_7 hC, cab_8 hC, cab_9 hC, tr_t hC, tr_6 hC, tr_8 hC, tr_9 hC, tr_11 hC, tr_12 hC, tr_13 hC, cab_i2 hC, cab_i3 hC, cab_i4 hC, tr_i0 hC, tr_i1 hC, tr_i2 hC, tr_i3 hC, tr_i4 hC, tr_i5 hC, tr_i7 hC, tr_i10 hC, q8 hS hq, qc hS hq, cab_x1 hC hS hq, cab_x2 hC hS hq, cab_x3 hC hS hq, cab_x4 hC hS hq, cab_v1 hC hq, cab_v2 hC hq, cab_v3 hC hq, cab_v4 hC hq, tr_x1 hC hS hq, tr_rq hC hS hq, tr_tq hC hS hq, tr_q0 hC hq, tr_q1 hC hq, tr_q2 hC hq, tr_q3 hC hq, tr_q4 hC hq, tr_q6 hC hq, nle_q hS hq, if_false, of_decide_eq_true hp, if_true]
  · intro self q hq hp
    unfold F_X0_sitterOf_2
    simp only [u_nn, u_ob, u_cb, u_cw, u_ck, on_s, on_n, cab_t hC, cab_0 hC, cab_6 hC, cab_7 hC, cab_8 hC, cab_9 hC, tr_t hC, tr_6 hC, tr_8 hC, tr_9 hC, tr_11 hC, tr_12 hC, tr_13 hC, cab_i2 hC, cab_i3 hC, cab_i4 hC, tr_i0 hC, tr_i1 hC, tr_i2 hC, tr_i3 hC, tr_i4 hC, tr_i5 hC, tr_i7 hC, tr_i10 hC, q8 hS hq, qc hS hq, cab_x1 hC hS hq, cab_x2 hC hS hq, cab_x3 hC hS hq, cab_x4 hC hS hq, cab_v1 hC hq, cab_v2 hC hq, cab_v3 hC hq, cab_v4 hC hq, tr_x1 hC hS hq, tr_rq hC hS hq, tr_tq hC hS hq, tr_q0 hC hq, tr_q1 hC hq, tr_q2 hC hq, tr_q3 hC hq, tr_q4 hC hq, tr_q6 hC hq, nle_q hS hq, if_false, of_decide_eq_false hp]
theorem p_sitterOf (hS : St w.1) {s : Int32} (hs : s ≠ -1) : p_X12_sitterOf G s w = some (sitV w.1 s, w) := by
  unfold p_X12_sitterOf
  show lw1 (P_X12_sitterOf_2 G s) bN (nI 0) w = _
  rw [lw1_ff (N := sN w.1) (fun q => decide (w.1 9 q = s)) (fun q => some (nI q, w)) (some (-1, w)) ?_ ?_ ?_ (d := sN w.1) (Nat.zero_add _) (bN8 hS)]
  · unfold sitV
    cases ff (fun q => decide (w.1 9 q = s)) (sN w.1) 0 <;> rfl
  · intro self
    unfold P_X12_sitterOf_2
    simp only [u_nn, u_ob, u_cb, u_cw, u_ck, on_s, on_n, ix_1_0, ix_7_0, ix_10_0, ix_10_1, ix_10_2, ix_10_3, ix_10_4, ix_10_5, ix_10_6, ix_10_7, ix_10_8, ix_10_9, ix_13_0, ix_13_1, ix_13_2, ix_13_3, ix_13_4, ix_13_5, ix_13_6, ix_13_7, ix_13_8, ix_13_9, ix_13_10, ix_13_11, ix_13_12, ix_17_0, ix_17_1, ix_17_2, ix_17_3, ix_17_4, ix_17_6, ix_17_7, ix_17_8, ix_17_9, ix_17_10, ix_17_11, ix_17_12, ix_17_13, ix_17_14, ix_17_15, ix_17_16, ix_256_0, ix_300_0, tn_0, tn_1, tn_2, tn_3, tn_4, tn_5, tn_6, tn_7, tn_8, tn_9, tn_10, tn_11, tn_12, tn_13, tn_14, tn_15, tn_16, tn_366, nle_N hS, if_true]
  · intro self q hq hp
    have e := of_decide_eq_true hp
    have e1 : w.1 10 q = 1 := (st_P hS hq).2.2.2.2.2.2.2.2.2.1 (by rw [e]; exact hs)
    unfold P_X12_sitterOf_2
    simp only [u_nn, u_ob, u_cb, u_cw, u_ck, on_s, on_n, ix_1_0, ix_7_0, ix_10_0, ix_10_1, ix_10_2, ix_10_3, ix_10_4, ix_10_5, ix_10_6, ix_10_7, ix_10_8, ix_10_9, ix_13_0, ix_13_1, ix_13_2, ix_13_3, ix_13_4, ix_13_5, ix_13_6, ix_13_7, ix_13_8, ix_13_9, ix_13_10, ix_13_11, ix_13_12, ix_17_0, ix_17_1, ix_17_2, ix_17_3, ix_17_4, ix_17_6, ix_17_7, ix_17_8, ix_17_9, ix_17_10, ix_17_11, ix_17_12, ix_17_13, ix_17_14, ix_17_15, ix_17_16, ix_256_0, ix_300_0, tn_0, tn_1, tn_2, tn_3, tn_4, tn_5, tn_6, tn_7, tn_8, tn_9, tn_10, tn_11, tn_12, tn_13, tn_14, tn_15, tn_16, tn_366, q8 hS hq, qc hS hq, nle_q hS hq, if_false, p_rides hS hq, e1, e, if_true]
    rfl
  · intro self q hq hp
    unfold P_X12_sitterOf_2
    simp only [u_nn, u_ob, u_cb, u_cw, u_ck, on_s, on_n, ix_1_0, ix_7_0, ix_10_0, ix_10_1, ix_10_2, ix_10_3, ix_10_4, ix_10_5, ix_10_6, ix_10_7, ix_10_8, ix_10_9, ix_13_0, ix_13_1, ix_13_2, ix_13_3, ix_13_4, ix_13_5, ix_13_6, ix_13_7, ix_13_8, ix_13_9, ix_13_10, ix_13_11, ix_13_12, ix_17_0, ix_17_1, ix_17_2, ix_17_3, ix_17_4, ix_17_6, ix_17_7, ix_17_8, ix_17_9, ix_17_10, ix_17_11, ix_17_12, ix_17_13, ix_17_14, ix_17_15, ix_17_16, ix_256_0, ix_300_0, tn_0, tn_1, tn_2, tn_3, tn_4, tn_5, tn_6, tn_7, tn_8, tn_9, tn_10, tn_11, tn_12, tn_13, tn_14, tn_15, tn_16, tn_366, q8 hS hq, qc hS hq, nle_q hS hq, if_false, p_rides hS hq, of_decide_eq_false hp]
    by_cases e : w.1 10 q = 0 <;> simp only [e, if_true, if_false]
theorem c_milesToTunnel (hC : Cab h c t v) (hS : St v) (m : Int32) : f_X9_milesToTunnel G t m h = some (soonV v m, h) := by
  unfold f_X9_milesToTunnel
  refine (show _ = lq2 (F_X9_milesToTunnel_6 G t m _) bN 240 (nI 0) h from rfl).trans ?_
  rw [lq2_fs (N := sT v) (soonS v m) (fun a => some (if a = 240 then 99 else a - m, h)) ?_ ?_ (d := sT v) (Nat.zero_add _) (bN_gt (by have := st_T5 hS; omega))]
  · rfl
  · intro self a
    unfold F_X9_milesToTunnel_6
    simp only [u_nn, u_ob, u_cb, u_cw, u_ck, on_s, on_n, cab_t hC, cab_0 hC, cab_6 hC, cab_7 hC, cab_8 hC, cab_9 hC, tr_t hC, tr_6 hC, tr_8 hC, tr_9 hC, tr_11 hC, tr_12 hC, tr_13 hC, cab_i2 hC, cab_i3 hC, cab_i4 hC, tr_i0 hC, tr_i1 hC, tr_i2 hC, tr_i3 hC, tr_i4 hC, tr_i5 hC, tr_i7 hC, tr_i10 hC, nle_T hS, if_true]
    by_cases e : a = 240 <;> simp only [e, if_true, if_false]
  · intro self a k hk
    have hk5 : k < 5 := by have := st_T5 hS; omega
    unfold F_X9_milesToTunnel_6 soonS
    simp only [u_nn, u_ob, u_cb, u_cw, u_ck, on_s, on_n, cab_t hC, cab_0 hC, cab_6 hC, cab_7 hC, cab_8 hC, cab_9 hC, tr_t hC, tr_6 hC, tr_8 hC, tr_9 hC, tr_11 hC, tr_12 hC, tr_13 hC, cab_i2 hC, cab_i3 hC, cab_i4 hC, tr_i0 hC, tr_i1 hC, tr_i2 hC, tr_i3 hC, tr_i4 hC, tr_i5 hC, tr_i7 hC, tr_i10 hC, nle_t hS hk, if_false, (tr_xs hC hk5).1, nI_clamp (show k < 2 ^ 31 by omega), tr_tn hC hk]
    by_cases e : v 13 k ≤ m <;> simp only [e, if_true, if_false]
theorem p_nextTunnel (hS : St w.1) : p_X12_nextTunnel G w = some (soonV w.1 (w.1 1 10), w) := by
  unfold p_X12_nextTunnel
  simp only [u_nn, u_ob, u_cb, u_cw, u_ck, on_s, on_n, ix_1_0, ix_7_0, ix_10_0, ix_10_1, ix_10_2, ix_10_3, ix_10_4, ix_10_5, ix_10_6, ix_10_7, ix_10_8, ix_10_9, ix_13_0, ix_13_1, ix_13_2, ix_13_3, ix_13_4, ix_13_5, ix_13_6, ix_13_7, ix_13_8, ix_13_9, ix_13_10, ix_13_11, ix_13_12, ix_17_0, ix_17_1, ix_17_2, ix_17_3, ix_17_4, ix_17_6, ix_17_7, ix_17_8, ix_17_9, ix_17_10, ix_17_11, ix_17_12, ix_17_13, ix_17_14, ix_17_15, ix_17_16, ix_256_0, ix_300_0, tn_0, tn_1, tn_2, tn_3, tn_4, tn_5, tn_6, tn_7, tn_8, tn_9, tn_10, tn_11, tn_12, tn_13, tn_14, tn_15, tn_16, tn_366]
  refine (show _ = lw3 (P_X12_nextTunnel_15 G _) bN (99 + w.1 1 10) 0 (nI 0) w from rfl).trans ?_
  rw [lw3_fs (N := sT w.1) (fun k (a : Int32 × Int32) => if w.1 13 k ≤ w.1 1 10 then a else if a.2 = 0 ∨ ¬ a.1 ≤ w.1 13 k then (w.1 13 k, 1) else a) (fun a => some (a.1 - w.1 1 10, w)) ?_ ?_ (d := sT w.1) (Nat.zero_add _) (bN_gt (by have := st_T5 hS; omega))]
  · have := fs_rel (R := fun j (a : Int32 × Int32) (b : Int32) => (a.2 = 0 ∧ a.1 = 99 + w.1 1 10 ∧ b = 240) ∨ (a.2 = 1 ∧ a.1 = b ∧ b.toInt ≤ 239)) (k := 0) (d := sT w.1) (f := fun k (a : Int32 × Int32) => if w.1 13 k ≤ w.1 1 10 then a else if a.2 = 0 ∨ ¬ a.1 ≤ w.1 13 k then (w.1 13 k, 1) else a) (g := soonS w.1 (w.1 1 10)) (a := (99 + w.1 1 10, 0)) (b := 240) (Or.inl ⟨rfl, rfl, rfl⟩) (by
      intro j _ hj a b hR
      have hb := (st_tun hS (k := j) (by omega)).1
      unfold soonS
      by_cases e : w.1 13 j ≤ w.1 1 10
      · simp only [e, if_true]; exact hR
      · simp only [e, if_false]
        rcases hR with ⟨h1, h2, h3⟩ | ⟨h1, h2, h3⟩
        · rw [if_pos (Or.inl h1), h3, if_pos]
          · exact Or.inr ⟨rfl, rfl, hb.2⟩
          · rw [I_lt]; have := hb.2; have : (240 : Int32).toInt = 240 := rfl; omega
        · rw [h2]
          by_cases e2 : w.1 13 j < b
          · rw [if_pos e2, if_pos (Or.inr (by rw [I_lt] at e2; rw [I_le]; omega))]
            exact Or.inr ⟨rfl, rfl, hb.2⟩
          · rw [if_neg e2, if_neg]
            · exact Or.inr ⟨h1, h2, h3⟩
            · rintro (h4 | h4)
              · rw [h1] at h4; exact absurd h4 (by decide)
              · rw [I_lt] at e2; rw [I_le] at h4; omega)
    unfold soonV
    rcases this with ⟨h1, h2, h3⟩ | ⟨h1, h2, h3⟩
    · rw [h2, if_pos h3]
      congr 2
      rw [Int32.add_sub_cancel]
    · rw [h2, if_neg]
      intro e
      rw [e] at h3
      exact absurd h3 (by decide)
  · intro self a b
    unfold P_X12_nextTunnel_15
    simp only [u_nn, u_ob, u_cb, u_cw, u_ck, on_s, on_n, ix_1_0, ix_7_0, ix_10_0, ix_10_1, ix_10_2, ix_10_3, ix_10_4, ix_10_5, ix_10_6, ix_10_7, ix_10_8, ix_10_9, ix_13_0, ix_13_1, ix_13_2, ix_13_3, ix_13_4, ix_13_5, ix_13_6, ix_13_7, ix_13_8, ix_13_9, ix_13_10, ix_13_11, ix_13_12, ix_17_0, ix_17_1, ix_17_2, ix_17_3, ix_17_4, ix_17_6, ix_17_7, ix_17_8, ix_17_9, ix_17_10, ix_17_11, ix_17_12, ix_17_13, ix_17_14, ix_17_15, ix_17_16, ix_256_0, ix_300_0, tn_0, tn_1, tn_2, tn_3, tn_4, tn_5, tn_6, tn_7, tn_8, tn_9, tn_10, tn_11, tn_12, tn_13, tn_14, tn_15, tn_16, tn_366, nle_T hS, if_true]
  · intro self a b k hk
    have hk5 : k < 5 := by have := st_T5 hS; omega
    unfold P_X12_nextTunnel_15
    simp only [u_nn, u_ob, u_cb, u_cw, u_ck, on_s, on_n, ix_1_0, ix_7_0, ix_10_0, ix_10_1, ix_10_2, ix_10_3, ix_10_4, ix_10_5, ix_10_6, ix_10_7, ix_10_8, ix_10_9, ix_13_0, ix_13_1, ix_13_2, ix_13_3, ix_13_4, ix_13_5, ix_13_6, ix_13_7, ix_13_8, ix_13_9, ix_13_10, ix_13_11, ix_13_12, ix_17_0, ix_17_1, ix_17_2, ix_17_3, ix_17_4, ix_17_6, ix_17_7, ix_17_8, ix_17_9, ix_17_10, ix_17_11, ix_17_12, ix_17_13, ix_17_14, ix_17_15, ix_17_16, ix_256_0, ix_300_0, tn_0, tn_1, tn_2, tn_3, tn_4, tn_5, tn_6, tn_7, tn_8, tn_9, tn_10, tn_11, tn_12, tn_13, tn_14, tn_15, tn_16, tn_366, nle_t hS hk, if_false, u_ixn hk5 (show 5 < 2 ^ 31 by decide), nI_clamp (show k < 2 ^ 31 by omega)]
    by_cases e : w.1 13 k ≤ w.1 1 10
    · simp only [e, if_true]
    · simp only [e, if_false]
      by_cases e1 : b = 0
      · simp only [e1, if_true, true_or]
      · by_cases e2 : a ≤ w.1 13 k <;> simp only [e1, e2, if_true, if_false, not_true_eq_false, not_false_eq_true, or_false, or_true]
end
