theorem nz_01 {x : Int32} (h : x &&& 1 = x) : x = 0 ∨ x = 1 := by
  have e := pk_and x (m := 1) 1 (by decide)
  rw [h] at e
  rcases Nat.mod_two_eq_zero_or_one x.toBitVec.toNat with q | q
  · left
    rw [e, Nat.pow_one, q]
    rfl
  · right
    rw [e, Nat.pow_one, q]
    rfl
theorem nz_fit {x : Int32} (h : x &&& 1 = x) : fits .boolean (.int x) = true := by
  rcases nz_01 h with rfl | rfl <;> rfl
