/-! PURE 62: what is asked of a train and a cabin, on both sides. -/
def airI (s x : Int32) : Int32 := if s = -1 then 0 else if 4 ≤ s then x * (7 - s) else x * (4 - s)
def wantI (s x : Int32) : Int32 :=
  let p : Int32 := if 0 ≤ s then (if 4 ≤ s then 7 - s else 4 - s) else 0
  if p ≤ 0 then 0 else if 0 < x then (let n := if 2 * (x - x / p * p) ≤ p then x / p else x / p + 1; if n < 5 then n else 5) else 0
def wstep (s x : Int32) (b l h : Int32) : Int32 × Int32 :=
  let y := airI s h - x
  let z := if 0 ≤ y then y else -y
  if l ≤ z then (b, l) else (h, z)
def wantR (s x : Int32) : Int32 := (fs (fun k a => wstep s x a.1 a.2 (nI k)) 6 0 ((0 : Int32), (1000000000 : Int32))).1
theorem want_all : ∀ i : Nat, i < 8 → ∀ j : Nat, j < 39 → wantR (Int32.ofInt (0 + i)) (Int32.ofInt (-9 + j)) = wantI (Int32.ofInt (0 + i)) (Int32.ofInt (-9 + j)) := by decide +kernel
theorem want_rng : ∀ i : Nat, i < 8 → ∀ j : Nat, j < 39 → (wantI (Int32.ofInt (0 + i)) (Int32.ofInt (-9 + j))).toNatClampNeg ≤ 5 ∧ wantI (Int32.ofInt (0 + i)) (Int32.ofInt (-9 + j)) = nI (wantI (Int32.ofInt (0 + i)) (Int32.ofInt (-9 + j))).toNatClampNeg := by decide +kernel
def wantV (v : VV) (q : Nat) : Int32 := wantI (v 9 q) (v 7 q + v 8 q)
def tunV (v : VV) (m : Int32) : Bool := (ff (fun k => decide (v 13 k ≤ m ∧ m ≤ v 14 k)) (sT v) 0).isSome
def coldV (v : VV) (m : Int32) : Int32 := fs (fun k a => a + if v 15 k ≤ m ∧ m ≤ v 16 k then v 17 k else 0) (sC v) 0 0
def unV (v : VV) (q : Nat) (s hole : Int32) : Int32 := (v 1 11 - v 6 q) * (v 1 11 - v 6 q) + (airI s hole - v 7 q) * (airI s hole - v 7 q)
def tollV (v : VV) (hole : Int32) : Int32 := if tunV v (v 1 10) then 9 * hole else 0
theorem if_nlt {α : Type} {a b : Int32} {x y : α} : (if a < b then x else y) = if b ≤ a then y else x := by
  by_cases h : a < b
  · rw [if_pos h, if_neg (by rw [I_lt] at h; rw [I_le]; omega)]
  · rw [if_neg h, if_pos (by rw [I_lt] at h; rw [I_le]; omega)]
section
variable {G : GG} {h : AH} {w : MS} {c t q : Nat} {v : VV}
theorem nle_q (hS : St v) (hq : q < sN v) : (v 1 6 ≤ nI q) = False := by
  rw [st_N hS]; exact eq_false (nI_ge hq (by have := st_N8 hS; omega))
theorem nle_N (hS : St v) : (v 1 6 ≤ nI (sN v)) = True := by
  rw [st_N hS]; exact eq_true (nI_le (Nat.le_refl _) (by have := st_N8 hS; omega))
theorem nle_t (hS : St v) {k : Nat} (hq : k < sT v) : (v 1 8 ≤ nI k) = False := by
  rw [st_T hS]; exact eq_false (nI_ge hq (by have := st_T5 hS; omega))
theorem nle_T (hS : St v) : (v 1 8 ≤ nI (sT v)) = True := by
  rw [st_T hS]; exact eq_true (nI_le (Nat.le_refl _) (by have := st_T5 hS; omega))
theorem nle_c (hS : St v) {k : Nat} (hq : k < sC v) : (v 1 9 ≤ nI k) = False := by
  rw [st_C hS]; exact eq_false (nI_ge hq (by have := st_C5 hS; omega))
theorem nle_C (hS : St v) : (v 1 9 ≤ nI (sC v)) = True := by
  rw [st_C hS]; exact eq_true (nI_le (Nat.le_refl _) (by have := st_C5 hS; omega))
theorem c_hasPerson (hC : Cab h c t v) (hS : St v) (x : Int32) : f_X9_hasPerson G t x h = some (if 0 ≤ x ∧ x ≤ v 1 6 - 1 then 1 else 0, h) := by
  have h8 := st_N8 hS
  have hN := st_N hS
  have hi : (v 1 6).toInt = sN v := by rw [hN]; exact nI_toInt (by omega)
  have h2 : (v 1 6 - 1).toInt = (sN v : Int) - 1 := by rw [I_sub (by rw [hi]; simp; omega) (by rw [hi]; simp; omega), hi]; rfl
  unfold f_X9_hasPerson
  simp only [u_nn, u_ob, u_cb, u_cw, u_ck, on_s, on_n, cab_t hC, cab_0 hC, cab_6 hC, cab_7 hC, cab_8 hC, cab_9 hC, tr_t hC, tr_6 hC, tr_8 hC, tr_9 hC, tr_11 hC, tr_12 hC, tr_13 hC, cab_i2 hC, cab_i3 hC, cab_i4 hC, tr_i0 hC, tr_i1 hC, tr_i2 hC, tr_i3 hC, tr_i4 hC, tr_i5 hC, tr_i7 hC, tr_i10 hC]
  by_cases h1 : x < 0
  · rw [if_pos h1, if_neg (fun e => by have := e.1; rw [I_lt] at h1; rw [I_le] at this; omega)]
  · rw [if_neg h1]
    by_cases h3 : v 1 6 ≤ x
    · rw [if_pos h3, if_neg (fun e => by have := e.2; rw [I_le] at this h3; omega)]
    · rw [if_neg h3, if_pos]
      rw [I_lt] at h1; rw [I_le] at h3; rw [I_le, I_le]
      have : (0 : Int32).toInt = 0 := rfl
      omega
theorem p_isPerson (x : Int32) : p_X12_isPerson G x w = some (if 0 ≤ x ∧ x ≤ w.1 1 6 - 1 then 1 else 0, w) := by
  unfold p_X12_isPerson
  have : p_X12_in G x.toInt64 0 (w.1 1 6 - 1).toInt64 w = _ := p_in_i G x 0 (w.1 1 6 - 1) w
  simp only [u_nn, u_ob, u_cb, u_cw, u_ck, on_s, on_n, ix_1_0, ix_7_0, ix_10_0, ix_10_1, ix_10_2, ix_10_3, ix_10_4, ix_10_5, ix_10_6, ix_10_7, ix_10_8, ix_10_9, ix_13_0, ix_13_1, ix_13_2, ix_13_3, ix_13_4, ix_13_5, ix_13_6, ix_13_7, ix_13_8, ix_13_9, ix_13_10, ix_13_11, ix_13_12, ix_17_0, ix_17_1, ix_17_2, ix_17_3, ix_17_4, ix_17_6, ix_17_7, ix_17_8, ix_17_9, ix_17_10, ix_17_11, ix_17_12, ix_17_13, ix_17_14, ix_17_15, ix_17_16, ix_256_0, ix_300_0, tn_0, tn_1, tn_2, tn_3, tn_4, tn_5, tn_6, tn_7, tn_8, tn_9, tn_10, tn_11, tn_12, tn_13, tn_14, tn_15, tn_16, tn_366, this, b01]
theorem in_q (hS : St v) (hq : q < sN v) : (0 : Int32) ≤ nI q ∧ nI q ≤ v 1 6 - 1 := by
  have h8 := st_N8 hS
  have hi : (v 1 6).toInt = sN v := by rw [st_N hS]; exact nI_toInt (by omega)
  have h2 : (v 1 6 - 1).toInt = (sN v : Int) - 1 := by rw [I_sub (by rw [hi]; simp; omega) (by rw [hi]; simp; omega), hi]; rfl
  refine ⟨nI_pos' (by omega), ?_⟩
  rw [I_le, h2, nI_toInt (by omega)]; omega
/-- a number is a person's or not -/
theorem in_N (hS : St v) (x : Int32) : (0 ≤ x ∧ x ≤ v 1 6 - 1) ∨ ¬ (0 ≤ x ∧ x ≤ v 1 6 - 1) := Classical.em _
theorem in_N' (hS : St v) {x : Int32} (hx : 0 ≤ x ∧ x ≤ v 1 6 - 1) : ∃ q, q < sN v ∧ x = nI q := by
  have h8 := st_N8 hS
  have hi : (v 1 6).toInt = sN v := by rw [st_N hS]; exact nI_toInt (by omega)
  have h2 : (v 1 6 - 1).toInt = (sN v : Int) - 1 := by rw [I_sub (by rw [hi]; simp; omega) (by rw [hi]; simp; omega), hi]; rfl
  have h3 := hx.1; have h4 := hx.2
  rw [I_le] at h3 h4
  have : (0 : Int32).toInt = 0 := rfl
  obtain ⟨k, h5, h6⟩ := bd_nI (x := x) (b := sN v - 1) ⟨by omega, by omega⟩
  have h7 : x.toInt = k := by rw [h6]; exact nI_toInt (by omega)
  exact ⟨k, by omega, h6⟩
theorem c_isAboard (hC : Cab h c t v) (hS : St v) (hA : Ab v) (hq : q < sN v) : f_X0_isAboard G c (nI q) h = some (v 10 q, h) := by
  unfold f_X0_isAboard
  have hp := hA q hq
  simp only [u_nn, u_ob, u_cb, u_cw, u_ck, on_s, on_n, cab_t hC, cab_0 hC, cab_6 hC, cab_7 hC, cab_8 hC, cab_9 hC, tr_t hC, tr_6 hC, tr_8 hC, tr_9 hC, tr_11 hC, tr_12 hC, tr_13 hC, cab_i2 hC, cab_i3 hC, cab_i4 hC, tr_i0 hC, tr_i1 hC, tr_i2 hC, tr_i3 hC, tr_i4 hC, tr_i5 hC, tr_i7 hC, tr_i10 hC, q8 hS hq, qc hS hq, cab_x1 hC hS hq, cab_x2 hC hS hq, cab_x3 hC hS hq, cab_x4 hC hS hq, cab_v1 hC hq, cab_v2 hC hq, cab_v3 hC hq, cab_v4 hC hq, tr_x1 hC hS hq, tr_rq hC hS hq, tr_tq hC hS hq, tr_q0 hC hq, tr_q1 hC hq, tr_q2 hC hq, tr_q3 hC hq, tr_q4 hC hq, tr_q6 hC hq, c_hasPerson hC hS, if_pos (in_q hS hq)]
  rw [hp]
  by_cases h1 : v 1 10 < v 4 q
  · rw [if_neg (by decide), if_pos h1, if_neg (fun e => by have := e.1; rw [I_lt] at h1; rw [I_le] at this; omega)]
  · rw [if_neg (by decide), if_neg h1]
    by_cases h2 : v 5 q ≤ v 1 10
    · rw [if_pos h2, if_neg (fun e => by have := e.2; rw [I_lt] at this; rw [I_le] at h2; omega)]
    · rw [if_neg h2, if_pos]
      rw [I_lt] at h1; rw [I_le] at h2; rw [I_le, I_lt]; omega
theorem ab01 (hS : St v) (hq : q < sN v) : v 10 q = 0 ∨ v 10 q = 1 := (st_P hS hq).2.2.2.2.2.2.2.2.1
theorem p_rides (hS : St w.1) (hq : q < sN w.1) : p_X12_rides G (nI q) w = some (w.1 10 q, w) := by
  unfold p_X12_rides
  simp only [u_nn, u_ob, u_cb, u_cw, u_ck, on_s, on_n, q8 hS hq, qc hS hq]
  rcases ab01 hS hq with e | e <;> rw [e] <;> rfl
theorem c_isTunnel (hC : Cab h c t v) (hS : St v) (m : Int32) : f_X9_isTunnel G t m h = some (if tunV v m then 1 else 0, h) := by
  unfold f_X9_isTunnel
  rw [← nI_0, lq1_ff (N := sT v) (fun k => decide (v 13 k ≤ m ∧ m ≤ v 14 k)) (fun _ => some (1, h)) (some (0, h)) ?_ ?_ ?_ (d := sT v) (Nat.zero_add _) (bN_gt (by have := st_T5 hS; omega))]
  · unfold tunV
    cases ff (fun k => decide (v 13 k ≤ m ∧ m ≤ v 14 k)) (sT v) 0 <;> rfl
  · intro self
    unfold F_X9_isTunnel_2
    simp only [u_nn, u_ob, u_cb, u_cw, u_ck, on_s, on_n, cab_t hC, cab_0 hC, cab_6 hC, cab_7 hC, cab_8 hC, cab_9 hC, tr_t hC, tr_6 hC, tr_8 hC, tr_9 hC, tr_11 hC, tr_12 hC, tr_13 hC, cab_i2 hC, cab_i3 hC, cab_i4 hC, tr_i0 hC, tr_i1 hC, tr_i2 hC, tr_i3 hC, tr_i4 hC, tr_i5 hC, tr_i7 hC, tr_i10 hC, nle_T hS, if_true]
  · intro self k hk hp
    have hp := of_decide_eq_true hp
    unfold F_X9_isTunnel_2
    have hk5 : k < 5 := by have := st_T5 hS; omega
    simp only [u_nn, u_ob, u_cb, u_cw, u_ck, on_s, on_n, cab_t hC, cab_0 hC, cab_6 hC, cab_7 hC, cab_8 hC, cab_9 hC, tr_t hC, tr_6 hC, tr_8 hC, tr_9 hC, tr_11 hC, tr_12 hC, tr_13 hC, cab_i2 hC, cab_i3 hC, cab_i4 hC, tr_i0 hC, tr_i1 hC, tr_i2 hC, tr_i3 hC, tr_i4 hC, tr_i5 hC, tr_i7 hC, tr_i10 hC, nle_t hS hk, if_false, (tr_xs hC hk5).1, (tr_xs hC hk5).2.1, nI_clamp (show k < 2 ^ 31 by omega), tr_tn hC hk]
    rw [if_neg (fun e => by have := hp.1; rw [I_le] at this; rw [I_lt] at e; omega), if_neg (fun e => by have := hp.2; rw [I_le] at this; rw [I_lt] at e; omega)]
  · intro self k hk hp
    have hp := of_decide_eq_false hp
    unfold F_X9_isTunnel_2
    have hk5 : k < 5 := by have := st_T5 hS; omega
    simp only [u_nn, u_ob, u_cb, u_cw, u_ck, on_s, on_n, cab_t hC, cab_0 hC, cab_6 hC, cab_7 hC, cab_8 hC, cab_9 hC, tr_t hC, tr_6 hC, tr_8 hC, tr_9 hC, tr_11 hC, tr_12 hC, tr_13 hC, cab_i2 hC, cab_i3 hC, cab_i4 hC, tr_i0 hC, tr_i1 hC, tr_i2 hC, tr_i3 hC, tr_i4 hC, tr_i5 hC, tr_i7 hC, tr_i10 hC, nle_t hS hk, if_false, (tr_xs hC hk5).1, (tr_xs hC hk5).2.1, nI_clamp (show k < 2 ^ 31 by omega), tr_tn hC hk]
    by_cases h1 : m < v 13 k
    · rw [if_pos h1]
    · rw [if_neg h1, if_pos]
      rw [I_lt] at h1 ⊢; rw [I_le, I_le] at hp; omega
theorem p_isIn {a b k : Nat} {m : Int32} (ha : mok a = true) (hb : mok b = true) (hka : k < mln a) (hkb : k < mln b) (h5 : mln a < 2 ^ 31) (h6 : mln b < 2 ^ 31) : p_X12_isIn G m a b (nI k) w = some (if w.1 a k ≤ m ∧ m ≤ w.1 b k then 1 else 0, w) := by
  unfold p_X12_isIn
  simp only [u_nn, u_ob, u_cb, u_cw, u_ck, on_s, on_n, ha, hb, u_ixn hka h5, u_ixn hkb h6, nI_clamp (show k < 2 ^ 31 by omega)]
  by_cases h1 : m < w.1 a k
  · rw [if_pos h1, if_neg (fun e => by have := e.1; rw [I_le] at this; rw [I_lt] at h1; omega)]
  · rw [if_neg h1]
    by_cases h2 : w.1 b k < m
    · rw [if_pos h2, if_neg (fun e => by have := e.2; rw [I_le] at this; rw [I_lt] at h2; omega)]
    · rw [if_neg h2, if_pos]
      rw [I_lt] at h1 h2; rw [I_le, I_le]; omega
theorem p_isTunnel (hS : St w.1) (m : Int32) : p_X12_isTunnel G m w = some (if tunV w.1 m then 1 else 0, w) := by
  unfold p_X12_isTunnel
  rw [← nI_0, lw1_ff (N := sT w.1) (fun k => decide (w.1 13 k ≤ m ∧ m ≤ w.1 14 k)) (fun _ => some (1, w)) (some (0, w)) ?_ ?_ ?_ (d := sT w.1) (Nat.zero_add _) (bN_gt (by have := st_T5 hS; omega))]
  · unfold tunV
    cases ff (fun k => decide (w.1 13 k ≤ m ∧ m ≤ w.1 14 k)) (sT w.1) 0 <;> rfl
  · intro self
    unfold P_X12_isTunnel_2
    simp only [u_nn, u_ob, u_cb, u_cw, u_ck, on_s, on_n, ix_1_0, ix_7_0, ix_10_0, ix_10_1, ix_10_2, ix_10_3, ix_10_4, ix_10_5, ix_10_6, ix_10_7, ix_10_8, ix_10_9, ix_13_0, ix_13_1, ix_13_2, ix_13_3, ix_13_4, ix_13_5, ix_13_6, ix_13_7, ix_13_8, ix_13_9, ix_13_10, ix_13_11, ix_13_12, ix_17_0, ix_17_1, ix_17_2, ix_17_3, ix_17_4, ix_17_6, ix_17_7, ix_17_8, ix_17_9, ix_17_10, ix_17_11, ix_17_12, ix_17_13, ix_17_14, ix_17_15, ix_17_16, ix_256_0, ix_300_0, tn_0, tn_1, tn_2, tn_3, tn_4, tn_5, tn_6, tn_7, tn_8, tn_9, tn_10, tn_11, tn_12, tn_13, tn_14, tn_15, tn_16, tn_366, nle_T hS, if_true]
  · intro self k hk hp
    have hp := of_decide_eq_true hp
    have hk5 : k < 5 := by have := st_T5 hS; omega
    unfold P_X12_isTunnel_2
    simp only [u_nn, u_ob, u_cb, u_cw, u_ck, on_s, on_n, ix_1_0, ix_7_0, ix_10_0, ix_10_1, ix_10_2, ix_10_3, ix_10_4, ix_10_5, ix_10_6, ix_10_7, ix_10_8, ix_10_9, ix_13_0, ix_13_1, ix_13_2, ix_13_3, ix_13_4, ix_13_5, ix_13_6, ix_13_7, ix_13_8, ix_13_9, ix_13_10, ix_13_11, ix_13_12, ix_17_0, ix_17_1, ix_17_2, ix_17_3, ix_17_4, ix_17_6, ix_17_7, ix_17_8, ix_17_9, ix_17_10, ix_17_11, ix_17_12, ix_17_13, ix_17_14, ix_17_15, ix_17_16, ix_256_0, ix_300_0, tn_0, tn_1, tn_2, tn_3, tn_4, tn_5, tn_6, tn_7, tn_8, tn_9, tn_10, tn_11, tn_12, tn_13, tn_14, tn_15, tn_16, tn_366, nle_t hS hk, if_false, p_isIn (G := G) (w := w) (a := 13) (b := 14) (k := k) (m := m) rfl rfl hk5 hk5 (by decide) (by decide), if_pos hp]
    rfl
  · intro self k hk hp
    have hp := of_decide_eq_false hp
    have hk5 : k < 5 := by have := st_T5 hS; omega
    unfold P_X12_isTunnel_2
    simp only [u_nn, u_ob, u_cb, u_cw, u_ck, on_s, on_n, ix_1_0, ix_7_0, ix_10_0, ix_10_1, ix_10_2, ix_10_3, ix_10_4, ix_10_5, ix_10_6, ix_10_7, ix_10_8, ix_10_9, ix_13_0, ix_13_1, ix_13_2, ix_13_3, ix_13_4, ix_13_5, ix_13_6, ix_13_7, ix_13_8, ix_13_9, ix_13_10, ix_13_11, ix_13_12, ix_17_0, ix_17_1, ix_17_2, ix_17_3, ix_17_4, ix_17_6, ix_17_7, ix_17_8, ix_17_9, ix_17_10, ix_17_11, ix_17_12, ix_17_13, ix_17_14, ix_17_15, ix_17_16, ix_256_0, ix_300_0, tn_0, tn_1, tn_2, tn_3, tn_4, tn_5, tn_6, tn_7, tn_8, tn_9, tn_10, tn_11, tn_12, tn_13, tn_14, tn_15, tn_16, tn_366, nle_t hS hk, if_false, p_isIn (G := G) (w := w) (a := 13) (b := 14) (k := k) (m := m) rfl rfl hk5 hk5 (by decide) (by decide), if_neg hp, if_true]
theorem c_coldAt (hC : Cab h c t v) (hS : St v) (m : Int32) : f_X9_coldAt G t m h = some (coldV v m, h) := by
  unfold f_X9_coldAt
  show lq2 (F_X9_coldAt_4 G t m) bN 0 (nI 0) h = _
  rw [lq2_fs (N := sC v) (fun k a => a + if v 15 k ≤ m ∧ m ≤ v 16 k then v 17 k else 0) (fun a => some (a, h)) ?_ ?_ (d := sC v) (Nat.zero_add _) (bN_gt (by have := st_C5 hS; omega))]
  · rfl
  · intro self a
    unfold F_X9_coldAt_4
    simp only [u_nn, u_ob, u_cb, u_cw, u_ck, on_s, on_n, cab_t hC, cab_0 hC, cab_6 hC, cab_7 hC, cab_8 hC, cab_9 hC, tr_t hC, tr_6 hC, tr_8 hC, tr_9 hC, tr_11 hC, tr_12 hC, tr_13 hC, cab_i2 hC, cab_i3 hC, cab_i4 hC, tr_i0 hC, tr_i1 hC, tr_i2 hC, tr_i3 hC, tr_i4 hC, tr_i5 hC, tr_i7 hC, tr_i10 hC, nle_C hS, if_true]
  · intro self a k hk
    have hk5 : k < 5 := by have := st_C5 hS; omega
    unfold F_X9_coldAt_4
    simp only [u_nn, u_ob, u_cb, u_cw, u_ck, on_s, on_n, cab_t hC, cab_0 hC, cab_6 hC, cab_7 hC, cab_8 hC, cab_9 hC, tr_t hC, tr_6 hC, tr_8 hC, tr_9 hC, tr_11 hC, tr_12 hC, tr_13 hC, cab_i2 hC, cab_i3 hC, cab_i4 hC, tr_i0 hC, tr_i1 hC, tr_i2 hC, tr_i3 hC, tr_i4 hC, tr_i5 hC, tr_i7 hC, tr_i10 hC, nle_c hS hk, if_false, (tr_xs hC hk5).2.2.1, (tr_xs hC hk5).2.2.2.1, (tr_xs hC hk5).2.2.2.2, nI_clamp (show k < 2 ^ 31 by omega), tr_cd hC hk]
    by_cases h1 : m < v 15 k
    · rw [if_pos h1, if_neg (fun e => by have := e.1; rw [I_le] at this; rw [I_lt] at h1; omega), Int32.add_zero]
    · rw [if_neg h1]
      by_cases h2 : v 16 k < m
      · rw [if_pos h2, if_neg (fun e => by have := e.2; rw [I_le] at this; rw [I_lt] at h2; omega), Int32.add_zero]
      · rw [if_neg h2, if_pos]
        rw [I_lt] at h1 h2; rw [I_le, I_le]; omega
theorem p_coldOf (hS : St w.1) (m : Int32) : p_X12_coldOf G m w = some (coldV w.1 m, w) := by
  unfold p_X12_coldOf
  show lw2 (P_X12_coldOf_4 G m) bN 0 (nI 0) w = _
  rw [lw2_fs (N := sC w.1) (fun k a => a + if w.1 15 k ≤ m ∧ m ≤ w.1 16 k then w.1 17 k else 0) (fun a => some (a, w)) ?_ ?_ (d := sC w.1) (Nat.zero_add _) (bN_gt (by have := st_C5 hS; omega))]
  · rfl
  · intro self a
    unfold P_X12_coldOf_4
    simp only [u_nn, u_ob, u_cb, u_cw, u_ck, on_s, on_n, ix_1_0, ix_7_0, ix_10_0, ix_10_1, ix_10_2, ix_10_3, ix_10_4, ix_10_5, ix_10_6, ix_10_7, ix_10_8, ix_10_9, ix_13_0, ix_13_1, ix_13_2, ix_13_3, ix_13_4, ix_13_5, ix_13_6, ix_13_7, ix_13_8, ix_13_9, ix_13_10, ix_13_11, ix_13_12, ix_17_0, ix_17_1, ix_17_2, ix_17_3, ix_17_4, ix_17_6, ix_17_7, ix_17_8, ix_17_9, ix_17_10, ix_17_11, ix_17_12, ix_17_13, ix_17_14, ix_17_15, ix_17_16, ix_256_0, ix_300_0, tn_0, tn_1, tn_2, tn_3, tn_4, tn_5, tn_6, tn_7, tn_8, tn_9, tn_10, tn_11, tn_12, tn_13, tn_14, tn_15, tn_16, tn_366, nle_C hS, if_true]
  · intro self a k hk
    have hk5 : k < 5 := by have := st_C5 hS; omega
    unfold P_X12_coldOf_4
    simp only [u_nn, u_ob, u_cb, u_cw, u_ck, on_s, on_n, ix_1_0, ix_7_0, ix_10_0, ix_10_1, ix_10_2, ix_10_3, ix_10_4, ix_10_5, ix_10_6, ix_10_7, ix_10_8, ix_10_9, ix_13_0, ix_13_1, ix_13_2, ix_13_3, ix_13_4, ix_13_5, ix_13_6, ix_13_7, ix_13_8, ix_13_9, ix_13_10, ix_13_11, ix_13_12, ix_17_0, ix_17_1, ix_17_2, ix_17_3, ix_17_4, ix_17_6, ix_17_7, ix_17_8, ix_17_9, ix_17_10, ix_17_11, ix_17_12, ix_17_13, ix_17_14, ix_17_15, ix_17_16, ix_256_0, ix_300_0, tn_0, tn_1, tn_2, tn_3, tn_4, tn_5, tn_6, tn_7, tn_8, tn_9, tn_10, tn_11, tn_12, tn_13, tn_14, tn_15, tn_16, tn_366, nle_c hS hk, if_false, p_isIn (G := G) (w := w) (a := 15) (b := 16) (k := k) (m := m) rfl rfl hk5 hk5 (by decide) (by decide), u_ixn hk5 (show 5 < 2 ^ 31 by decide), nI_clamp (show k < 2 ^ 31 by omega)]
    by_cases h1 : w.1 15 k ≤ m ∧ m ≤ w.1 16 k
    · simp only [if_pos h1]; rfl
    · simp only [if_neg h1]; rfl
theorem c_airAt {s x : Int32} (hs : bd s (-1) 7) : f_X11_airAt G s x h = some (airI s x, h) := by
  unfold f_X11_airAt f_X11_airPerHole airI
  have h1 := hs.1
  by_cases h0 : 0 ≤ s
  · have hne : ¬ s = -1 := fun e => by subst e; exact absurd h0 (by decide)
    by_cases h4 : (4 : Int32) ≤ s
    · simp only [h0, h4, hne, if_true, if_false, u_nn, u_ob, u_cb, u_cw, u_ck, on_s, on_n, Int32.mul_comm]
    · simp only [h0, h4, hne, if_true, if_false, u_nn, u_ob, u_cb, u_cw, u_ck, on_s, on_n, Int32.mul_comm]
  · have e : s = -1 := by
      rw [I_le] at h0; rw [I_eq]
      have : (0 : Int32).toInt = 0 := rfl
      have : (-1 : Int32).toInt = -1 := rfl
      omega
    rw [if_neg h0, if_pos e]
    simp only [u_nn, u_ob, u_cb, u_cw, u_ck, on_s, on_n, Int32.zero_mul]
theorem p_airOf (s x : Int32) : p_X12_airOf G s x w = some (airI s x, w) := by
  unfold p_X12_airOf airI
  by_cases h1 : s = -1
  · rw [if_pos h1, if_pos h1]
  · rw [if_neg h1, if_neg h1]
    by_cases h4 : (4 : Int32) ≤ s
    · rw [if_pos h4, if_pos h4]
    · rw [if_neg h4, if_neg h4]
theorem c_wantOf (hC : Cab h c t v) (hS : St v) (hq : q < sN v) : f_X0_wantOf G c (nI q) h = some (wantV v q, h) := by
  unfold f_X0_wantOf f_X11_airPerHole wantV wantI
  simp only [u_nn, u_ob, u_cb, u_cw, u_ck, on_s, on_n, cab_t hC, cab_0 hC, cab_6 hC, cab_7 hC, cab_8 hC, cab_9 hC, tr_t hC, tr_6 hC, tr_8 hC, tr_9 hC, tr_11 hC, tr_12 hC, tr_13 hC, cab_i2 hC, cab_i3 hC, cab_i4 hC, tr_i0 hC, tr_i1 hC, tr_i2 hC, tr_i3 hC, tr_i4 hC, tr_i5 hC, tr_i7 hC, tr_i10 hC, q8 hS hq, qc hS hq, cab_x1 hC hS hq, cab_x2 hC hS hq, cab_x3 hC hS hq, cab_x4 hC hS hq, cab_v1 hC hq, cab_v2 hC hq, cab_v3 hC hq, cab_v4 hC hq, tr_x1 hC hS hq, tr_rq hC hS hq, tr_tq hC hS hq, tr_q0 hC hq, tr_q1 hC hq, tr_q2 hC hq, tr_q3 hC hq, tr_q4 hC hq, tr_q6 hC hq]
  by_cases h0 : 0 ≤ v 9 q
  · simp only [if_pos h0]
    by_cases h4 : (4 : Int32) ≤ v 9 q
    · simp only [if_pos h4, u_nn, u_ob, u_cb, u_cw, u_ck, on_s, on_n, cab_t hC, cab_0 hC, cab_6 hC, cab_7 hC, cab_8 hC, cab_9 hC, tr_t hC, tr_6 hC, tr_8 hC, tr_9 hC, tr_11 hC, tr_12 hC, tr_13 hC, cab_i2 hC, cab_i3 hC, cab_i4 hC, tr_i0 hC, tr_i1 hC, tr_i2 hC, tr_i3 hC, tr_i4 hC, tr_i5 hC, tr_i7 hC, tr_i10 hC, q8 hS hq, qc hS hq, cab_x1 hC hS hq, cab_x2 hC hS hq, cab_x3 hC hS hq, cab_x4 hC hS hq, cab_v1 hC hq, cab_v2 hC hq, cab_v3 hC hq, cab_v4 hC hq, tr_x1 hC hS hq, tr_rq hC hS hq, tr_tq hC hS hq, tr_q0 hC hq, tr_q1 hC hq, tr_q2 hC hq, tr_q3 hC hq, tr_q4 hC hq, tr_q6 hC hq]
      by_cases h5 : 7 - v 9 q ≤ 0
      · simp only [if_pos h5]
      · simp only [if_neg h5]
        by_cases h6 : 0 < v 7 q + v 8 q
        · have h7 : ¬ 7 - v 9 q = 0 := fun e => h5 (by rw [e]; decide)
          simp only [if_pos h6, u_nn, u_ob, u_cb, u_cw, u_ck, on_s, on_n, h7, not_false_eq_true]
          by_cases h8 : 2 * ((v 7 q + v 8 q) - (v 7 q + v 8 q) / (7 - v 9 q) * (7 - v 9 q)) ≤ 7 - v 9 q
          · simp only [if_pos h8]
          · simp only [if_neg h8]
        · simp only [if_neg h6]
    · simp only [if_neg h4, u_nn, u_ob, u_cb, u_cw, u_ck, on_s, on_n, cab_t hC, cab_0 hC, cab_6 hC, cab_7 hC, cab_8 hC, cab_9 hC, tr_t hC, tr_6 hC, tr_8 hC, tr_9 hC, tr_11 hC, tr_12 hC, tr_13 hC, cab_i2 hC, cab_i3 hC, cab_i4 hC, tr_i0 hC, tr_i1 hC, tr_i2 hC, tr_i3 hC, tr_i4 hC, tr_i5 hC, tr_i7 hC, tr_i10 hC, q8 hS hq, qc hS hq, cab_x1 hC hS hq, cab_x2 hC hS hq, cab_x3 hC hS hq, cab_x4 hC hS hq, cab_v1 hC hq, cab_v2 hC hq, cab_v3 hC hq, cab_v4 hC hq, tr_x1 hC hS hq, tr_rq hC hS hq, tr_tq hC hS hq, tr_q0 hC hq, tr_q1 hC hq, tr_q2 hC hq, tr_q3 hC hq, tr_q4 hC hq, tr_q6 hC hq]
      by_cases h5 : 4 - v 9 q ≤ 0
      · simp only [if_pos h5]
      · simp only [if_neg h5]
        by_cases h6 : 0 < v 7 q + v 8 q
        · have h7 : ¬ 4 - v 9 q = 0 := fun e => h5 (by rw [e]; decide)
          simp only [if_pos h6, u_nn, u_ob, u_cb, u_cw, u_ck, on_s, on_n, h7, not_false_eq_true]
          by_cases h8 : 2 * ((v 7 q + v 8 q) - (v 7 q + v 8 q) / (4 - v 9 q) * (4 - v 9 q)) ≤ 4 - v 9 q
          · simp only [if_pos h8]
          · simp only [if_neg h8]
        · simp only [if_neg h6]
  · simp only [if_neg h0, u_nn, u_ob, u_cb, u_cw, u_ck, on_s, on_n, cab_t hC, cab_0 hC, cab_6 hC, cab_7 hC, cab_8 hC, cab_9 hC, tr_t hC, tr_6 hC, tr_8 hC, tr_9 hC, tr_11 hC, tr_12 hC, tr_13 hC, cab_i2 hC, cab_i3 hC, cab_i4 hC, tr_i0 hC, tr_i1 hC, tr_i2 hC, tr_i3 hC, tr_i4 hC, tr_i5 hC, tr_i7 hC, tr_i10 hC, q8 hS hq, qc hS hq, cab_x1 hC hS hq, cab_x2 hC hS hq, cab_x3 hC hS hq, cab_x4 hC hS hq, cab_v1 hC hq, cab_v2 hC hq, cab_v3 hC hq, cab_v4 hC hq, tr_x1 hC hS hq, tr_rq hC hS hq, tr_tq hC hS hq, tr_q0 hC hq, tr_q1 hC hq, tr_q2 hC hq, tr_q3 hC hq, tr_q4 hC hq, tr_q6 hC hq, Int32.le_refl, if_true]
theorem want_x (hS : St v) (hq : q < sN v) : ∃ j : Nat, j < 39 ∧ v 7 q + v 8 q = Int32.ofInt (-9 + j) := by
  have hp := st_P hS hq
  have h1 := hp.2.2.2.2.2.1; have h2 := hp.2.2.2.2.2.2.1
  have e : (v 7 q + v 8 q).toInt = (v 7 q).toInt + (v 8 q).toInt := I_add (by have := h1.1; have := h2.1; omega) (by have := h1.2; have := h2.2; omega)
  obtain ⟨k, h3, h4⟩ := bd_of (x := v 7 q + v 8 q) (a := -9) (b := 29) ⟨by have := h1.1; have := h2.1; omega, by have := h1.2; have := h2.2; omega⟩
  exact ⟨k, by omega, h4⟩
theorem want_5 (hS : St v) (hq : q < sN v) : ∃ j : Nat, j ≤ 5 ∧ wantV v q = nI j := by
  obtain ⟨j, hj, e⟩ := want_x hS hq
  unfold wantV; rw [e]
  by_cases h0 : v 9 q = -1
  · rw [h0]; refine ⟨0, by decide, ?_⟩; unfold wantI; rfl
  · have h1 := (st_P hS hq).2.2.2.2.2.2.2.1
    obtain ⟨i, h2, h3⟩ := bd_of (x := v 9 q) (a := 0) (b := 7) ⟨by
      have h4 := h1.1
      have : (v 9 q).toInt ≠ -1 := fun e2 => h0 (by rw [I_eq, e2]; rfl)
      omega, h1.2⟩
    rw [h3]
    exact ⟨_, (want_rng i (by omega) j hj).1, (want_rng i (by omega) j hj).2⟩
theorem p_wantOf (hS : St w.1) (hq : q < sN w.1) : p_X12_wantOf G (nI q) w = some (wantV w.1 q, w) := by
  unfold p_X12_wantOf
  simp only [u_nn, u_ob, u_cb, u_cw, u_ck, on_s, on_n, q8 hS hq, qc hS hq]
  by_cases h0 : w.1 9 q = -1
  · rw [if_pos h0]; unfold wantV wantI; rw [h0]; rfl
  · rw [if_neg h0]
    have e0 : lw3 (P_X12_wantOf_21 G (nI q)) bN 0 1000000000 (nI 0) w = some ((fs (fun k (a : Int32 × Int32) => wstep (w.1 9 q) (w.1 7 q + w.1 8 q) a.1 a.2 (nI k)) 6 0 ((0 : Int32), (1000000000 : Int32))).1, w) := by
      refine lw3_fs (N := 6) _ (fun a => some (a.1, w)) ?_ ?_ (d := 6) rfl (bN_gt (by decide))
      · intro self a b
        unfold P_X12_wantOf_21
        rw [if_pos (by decide)]
      · intro self a b k hk
        unfold P_X12_wantOf_21
        rw [if_neg (show ¬ (6 : Int32) ≤ nI k from nI_ge (b := 6) hk (by decide))]
        simp only [u_nn, u_ob, u_cb, u_cw, u_ck, on_s, on_n, q8 hS hq, qc hS hq, p_airOf, wstep]
        have e1 : airI (w.1 9 q) (nI k) - w.1 7 q - w.1 8 q = airI (w.1 9 q) (nI k) - (w.1 7 q + w.1 8 q) := by
          rw [Int32.sub_eq_add_neg, Int32.sub_eq_add_neg, Int32.sub_eq_add_neg, Int32.neg_add, Int32.add_assoc, Int32.sub_eq_add_neg]
        rw [e1]
        by_cases h1 : 0 ≤ airI (w.1 9 q) (nI k) - (w.1 7 q + w.1 8 q)
        · simp only [if_pos h1]
          by_cases h2 : b ≤ airI (w.1 9 q) (nI k) - (w.1 7 q + w.1 8 q)
          · simp only [if_pos h2]
          · simp only [if_neg h2]
        · simp only [if_neg h1]
          by_cases h2 : b ≤ -(airI (w.1 9 q) (nI k) - (w.1 7 q + w.1 8 q))
          · simp only [if_pos h2]
          · simp only [if_neg h2]
    refine (show _ = lw3 (P_X12_wantOf_21 G (nI q)) bN 0 1000000000 (nI 0) w from rfl).trans (e0.trans ?_)
    show some (wantR (w.1 9 q) (w.1 7 q + w.1 8 q), w) = _
    obtain ⟨j, hj, e⟩ := want_x hS hq
    have h1 := (st_P hS hq).2.2.2.2.2.2.2.1
    obtain ⟨i, h2, h3⟩ := bd_of (x := w.1 9 q) (a := 0) (b := 7) ⟨by
      have h4 := h1.1
      have : (w.1 9 q).toInt ≠ -1 := fun e2 => h0 (by rw [I_eq, e2]; rfl)
      omega, h1.2⟩
    unfold wantV
    rw [e, h3, want_all i (by omega) j hj]
theorem c_unease (hC : Cab h c t v) (hS : St v) (hq : q < sN v) {s x : Int32} (hs : bd s (-1) 7) : f_X0_unease G c (nI q) s x h = some (unV v q s x, h) := by
  unfold f_X0_unease unV
  simp only [u_nn, u_ob, u_cb, u_cw, u_ck, on_s, on_n, cab_t hC, cab_0 hC, cab_6 hC, cab_7 hC, cab_8 hC, cab_9 hC, tr_t hC, tr_6 hC, tr_8 hC, tr_9 hC, tr_11 hC, tr_12 hC, tr_13 hC, cab_i2 hC, cab_i3 hC, cab_i4 hC, tr_i0 hC, tr_i1 hC, tr_i2 hC, tr_i3 hC, tr_i4 hC, tr_i5 hC, tr_i7 hC, tr_i10 hC, q8 hS hq, qc hS hq, cab_x1 hC hS hq, cab_x2 hC hS hq, cab_x3 hC hS hq, cab_x4 hC hS hq, cab_v1 hC hq, cab_v2 hC hq, cab_v3 hC hq, cab_v4 hC hq, tr_x1 hC hS hq, tr_rq hC hS hq, tr_tq hC hS hq, tr_q0 hC hq, tr_q1 hC hq, tr_q2 hC hq, tr_q3 hC hq, tr_q4 hC hq, tr_q6 hC hq, c_airAt hs]
theorem c_tollFor (hC : Cab h c t v) (hS : St v) (x : Int32) : f_X0_tollFor G c x h = some (tollV v x, h) := by
  unfold f_X0_tollFor tollV
  simp only [u_nn, u_ob, u_cb, u_cw, u_ck, on_s, on_n, cab_t hC, cab_0 hC, cab_6 hC, cab_7 hC, cab_8 hC, cab_9 hC, tr_t hC, tr_6 hC, tr_8 hC, tr_9 hC, tr_11 hC, tr_12 hC, tr_13 hC, cab_i2 hC, cab_i3 hC, cab_i4 hC, tr_i0 hC, tr_i1 hC, tr_i2 hC, tr_i3 hC, tr_i4 hC, tr_i5 hC, tr_i7 hC, tr_i10 hC, c_isTunnel hC hS]
  cases tunV v (v 1 10) <;> rfl
theorem c_sufferingOf (hC : Cab h c t v) (hS : St v) (hq : q < sN v) (x : Int32) : f_X0_sufferingOf G c (nI q) x h = some (unV v q (v 9 q) x + tollV v x, h) := by
  unfold f_X0_sufferingOf
  simp only [u_nn, u_ob, u_cb, u_cw, u_ck, on_s, on_n, cab_t hC, cab_0 hC, cab_6 hC, cab_7 hC, cab_8 hC, cab_9 hC, tr_t hC, tr_6 hC, tr_8 hC, tr_9 hC, tr_11 hC, tr_12 hC, tr_13 hC, cab_i2 hC, cab_i3 hC, cab_i4 hC, tr_i0 hC, tr_i1 hC, tr_i2 hC, tr_i3 hC, tr_i4 hC, tr_i5 hC, tr_i7 hC, tr_i10 hC, q8 hS hq, qc hS hq, cab_x1 hC hS hq, cab_x2 hC hS hq, cab_x3 hC hS hq, cab_x4 hC hS hq, cab_v1 hC hq, cab_v2 hC hq, cab_v3 hC hq, cab_v4 hC hq, tr_x1 hC hS hq, tr_rq hC hS hq, tr_tq hC hS hq, tr_q0 hC hq, tr_q1 hC hq, tr_q2 hC hq, tr_q3 hC hq, tr_q4 hC hq, tr_q6 hC hq, c_unease hC hS hq (st_P hS hq).2.2.2.2.2.2.2.1, c_tollFor hC hS]
theorem p_sufferIn (hS : St w.1) (hq : q < sN w.1) (s x : Int32) : p_X12_sufferIn G (nI q) s (w.1 1 11) x (w.1 1 10) w = some (unV w.1 q s x + tollV w.1 x, w) := by
  unfold p_X12_sufferIn p_X12_square unV tollV
  simp only [u_nn, u_ob, u_cb, u_cw, u_ck, on_s, on_n, q8 hS hq, qc hS hq, p_airOf, p_isTunnel hS]
  cases tunV w.1 (w.1 1 10) <;> rfl
theorem p_suffersBy (hS : St w.1) (hq : q < sN w.1) (x : Int32) : p_X12_suffersBy G (nI q) x w = some (unV w.1 q (w.1 9 q) x + tollV w.1 x, w) := by
  unfold p_X12_suffersBy
  simp only [u_nn, u_ob, u_cb, u_cw, u_ck, on_s, on_n, ix_1_0, ix_7_0, ix_10_0, ix_10_1, ix_10_2, ix_10_3, ix_10_4, ix_10_5, ix_10_6, ix_10_7, ix_10_8, ix_10_9, ix_13_0, ix_13_1, ix_13_2, ix_13_3, ix_13_4, ix_13_5, ix_13_6, ix_13_7, ix_13_8, ix_13_9, ix_13_10, ix_13_11, ix_13_12, ix_17_0, ix_17_1, ix_17_2, ix_17_3, ix_17_4, ix_17_6, ix_17_7, ix_17_8, ix_17_9, ix_17_10, ix_17_11, ix_17_12, ix_17_13, ix_17_14, ix_17_15, ix_17_16, ix_256_0, ix_300_0, tn_0, tn_1, tn_2, tn_3, tn_4, tn_5, tn_6, tn_7, tn_8, tn_9, tn_10, tn_11, tn_12, tn_13, tn_14, tn_15, tn_16, tn_366, q8 hS hq, qc hS hq, p_sufferIn hS hq]
end
