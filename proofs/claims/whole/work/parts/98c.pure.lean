/-! PURE 98c: what an image holds after it is made. -/
section
variable {G : GG} {w w' w1 w2 w3 : MS} {v v' v0 : VV}
theorem img_one {k : Nat} (e : ∀ j, 1250 * k ≤ j → j < 1250 * k + 1250 → v' 81 j = v 81 j) : PW (img v k) (img v' k) ∧ (∀ n, n < 1020 → img v' k 53 n = img v k 53 n) ∧ img v' k 54 0 = img v k 54 0 := by
  refine ⟨fun r h1 h2 i hi => ?_, fun n hn => ?_, ?_⟩
  · have q : r = 1 ∨ r = 2 ∨ r = 3 ∨ r = 4 ∨ r = 5 ∨ r = 6 ∨ r = 7 ∨ r = 8 ∨ r = 9 ∨ r = 10 ∨ r = 11 ∨ r = 12 ∨ r = 13 ∨ r = 14 ∨ r = 15 ∨ r = 16 ∨ r = 17 ∨ r = 18 ∨ r = 19 := by omega
    have hi' : i < 17 := by
      rcases q with q | q | q | q | q | q | q | q | q | q | q | q | q | q | q | q | q | q | q <;> subst q <;> (refine Nat.lt_of_lt_of_le hi ?_; decide)
    unfold img
    rcases q with q | q | q | q | q | q | q | q | q | q | q | q | q | q | q | q | q | q | q <;> subst q <;> (refine e _ ?_ ?_ <;> omega)
  · unfold img; exact e _ (by omega) (by omega)
  · unfold img; exact e _ (by omega) (by omega)
/-- what is kept in the k-th place -/
theorem img_new {k : Nat} (e : ∀ j, v' 81 j = if 1250 * k + 65 ≤ j ∧ j < 1250 * k + 65 + lenS (sgs RA) then pickS 81 (sgs RA) (1250 * k + 65) v j else if j = 1250 * k + 64 then v 0 55 else pickS 81 (sgs R7) (1250 * k) v j) : PW v (img v' k) ∧ (∀ n, n < 1020 → img v' k 53 n = v 53 n) ∧ img v' k 54 0 = v 0 55 ∧ ∀ j, (j < 1250 * k ∨ 1250 * k + 1250 ≤ j) → v' 81 j = v 81 j := by
  have hL : lenS (sgs RA) = 1105 := by decide
  have hL7 : lenS (sgs R7) = 64 := by decide
  have p7 : ∀ j, pickS 81 (sgs R7) (1250 * k) v j = pickS 81 [(1, 0, 17), (2, 0, 7), (8, 0, 8), (9, 0, 8), (10, 0, 8), (11, 0, 8), (12, 0, 8)] (1250 * k) v j := fun j => rfl
  have pA : ∀ j, pickS 81 (sgs RA) (1250 * k + 65) v j = pickS 81 [(3, 0, 8), (4, 0, 8), (5, 0, 8), (6, 0, 8), (7, 0, 8), (13, 0, 5), (14, 0, 5), (15, 0, 5), (16, 0, 5), (17, 0, 5), (18, 0, 10), (19, 0, 10), (53, 0, 1020)] (1250 * k + 65) v j := fun j => rfl
  rw [hL] at e
  have row7 : ∀ j, j < 1250 * k + 64 → v' 81 j = pickS 81 [(1, 0, 17), (2, 0, 7), (8, 0, 8), (9, 0, 8), (10, 0, 8), (11, 0, 8), (12, 0, 8)] (1250 * k) v j := fun j hj => by
    rw [e, if_neg (by omega), if_neg (by omega), p7]
  have rowA : ∀ j, 1250 * k + 65 ≤ j → j < 1250 * k + 1170 → v' 81 j = pickS 81 [(3, 0, 8), (4, 0, 8), (5, 0, 8), (6, 0, 8), (7, 0, 8), (13, 0, 5), (14, 0, 5), (15, 0, 5), (16, 0, 5), (17, 0, 5), (18, 0, 10), (19, 0, 10), (53, 0, 1020)] (1250 * k + 65) v j := fun j h1 h2 => by
    rw [e, if_pos (by omega), pA]
  refine ⟨fun r h1 h2 i hi => ?_, fun n hn => ?_, ?_, fun j hj => ?_⟩
  · have q : r = 1 ∨ r = 2 ∨ r = 8 ∨ r = 9 ∨ r = 10 ∨ r = 11 ∨ r = 12 ∨ r = 3 ∨ r = 4 ∨ r = 5 ∨ r = 6 ∨ r = 7 ∨ r = 13 ∨ r = 14 ∨ r = 15 ∨ r = 16 ∨ r = 17 ∨ r = 18 ∨ r = 19 := by omega
    rcases q with rfl | rfl | rfl | rfl | rfl | rfl | rfl | rfl | rfl | rfl | rfl | rfl | rfl | rfl | rfl | rfl | rfl | rfl | rfl
    · have hj : i < 17 := hi
      show v' 81 (1250 * k + i) = _
      rw [row7 _ (by omega)]
      simp only [pickS_c]
      (repeat (first | rw [if_pos (by omega)] | rw [if_neg (by omega)]))
      congr 1; omega
    · have hj : i < 7 := hi
      show v' 81 (1250 * k + 17 + i) = _
      rw [row7 _ (by omega)]
      simp only [pickS_c]
      (repeat (first | rw [if_pos (by omega)] | rw [if_neg (by omega)]))
      congr 1; omega
    · have hj : i < 8 := hi
      show v' 81 (1250 * k + 24 + i) = _
      rw [row7 _ (by omega)]
      simp only [pickS_c]
      (repeat (first | rw [if_pos (by omega)] | rw [if_neg (by omega)]))
      exact congrArg (v 8) (by omega)
    · have hj : i < 8 := hi
      show v' 81 (1250 * k + 32 + i) = _
      rw [row7 _ (by omega)]
      simp only [pickS_c]
      (repeat (first | rw [if_pos (by omega)] | rw [if_neg (by omega)]))
      exact congrArg (v 9) (by omega)
    · have hj : i < 8 := hi
      show v' 81 (1250 * k + 40 + i) = _
      rw [row7 _ (by omega)]
      simp only [pickS_c]
      (repeat (first | rw [if_pos (by omega)] | rw [if_neg (by omega)]))
      exact congrArg (v 10) (by omega)
    · have hj : i < 8 := hi
      show v' 81 (1250 * k + 48 + i) = _
      rw [row7 _ (by omega)]
      simp only [pickS_c]
      (repeat (first | rw [if_pos (by omega)] | rw [if_neg (by omega)]))
      exact congrArg (v 11) (by omega)
    · have hj : i < 8 := hi
      show v' 81 (1250 * k + 56 + i) = _
      rw [row7 _ (by omega)]
      simp only [pickS_c]
      (repeat (first | rw [if_pos (by omega)] | rw [if_neg (by omega)]))
      exact congrArg (v 12) (by omega)
    · have hj : i < 8 := hi
      show v' 81 (1250 * k + 65 + i) = _
      rw [rowA _ (by omega) (by omega)]
      simp only [pickS_c]
      (repeat (first | rw [if_pos (by omega)] | rw [if_neg (by omega)]))
      exact congrArg (v 3) (by omega)
    · have hj : i < 8 := hi
      show v' 81 (1250 * k + 73 + i) = _
      rw [rowA _ (by omega) (by omega)]
      simp only [pickS_c]
      (repeat (first | rw [if_pos (by omega)] | rw [if_neg (by omega)]))
      exact congrArg (v 4) (by omega)
    · have hj : i < 8 := hi
      show v' 81 (1250 * k + 81 + i) = _
      rw [rowA _ (by omega) (by omega)]
      simp only [pickS_c]
      (repeat (first | rw [if_pos (by omega)] | rw [if_neg (by omega)]))
      exact congrArg (v 5) (by omega)
    · have hj : i < 8 := hi
      show v' 81 (1250 * k + 89 + i) = _
      rw [rowA _ (by omega) (by omega)]
      simp only [pickS_c]
      (repeat (first | rw [if_pos (by omega)] | rw [if_neg (by omega)]))
      exact congrArg (v 6) (by omega)
    · have hj : i < 8 := hi
      show v' 81 (1250 * k + 97 + i) = _
      rw [rowA _ (by omega) (by omega)]
      simp only [pickS_c]
      (repeat (first | rw [if_pos (by omega)] | rw [if_neg (by omega)]))
      exact congrArg (v 7) (by omega)
    · have hj : i < 5 := hi
      show v' 81 (1250 * k + 105 + i) = _
      rw [rowA _ (by omega) (by omega)]
      simp only [pickS_c]
      (repeat (first | rw [if_pos (by omega)] | rw [if_neg (by omega)]))
      exact congrArg (v 13) (by omega)
    · have hj : i < 5 := hi
      show v' 81 (1250 * k + 110 + i) = _
      rw [rowA _ (by omega) (by omega)]
      simp only [pickS_c]
      (repeat (first | rw [if_pos (by omega)] | rw [if_neg (by omega)]))
      exact congrArg (v 14) (by omega)
    · have hj : i < 5 := hi
      show v' 81 (1250 * k + 115 + i) = _
      rw [rowA _ (by omega) (by omega)]
      simp only [pickS_c]
      (repeat (first | rw [if_pos (by omega)] | rw [if_neg (by omega)]))
      exact congrArg (v 15) (by omega)
    · have hj : i < 5 := hi
      show v' 81 (1250 * k + 120 + i) = _
      rw [rowA _ (by omega) (by omega)]
      simp only [pickS_c]
      (repeat (first | rw [if_pos (by omega)] | rw [if_neg (by omega)]))
      exact congrArg (v 16) (by omega)
    · have hj : i < 5 := hi
      show v' 81 (1250 * k + 125 + i) = _
      rw [rowA _ (by omega) (by omega)]
      simp only [pickS_c]
      (repeat (first | rw [if_pos (by omega)] | rw [if_neg (by omega)]))
      exact congrArg (v 17) (by omega)
    · have hj : i < 10 := hi
      show v' 81 (1250 * k + 130 + i) = _
      rw [rowA _ (by omega) (by omega)]
      simp only [pickS_c]
      (repeat (first | rw [if_pos (by omega)] | rw [if_neg (by omega)]))
      exact congrArg (v 18) (by omega)
    · have hj : i < 10 := hi
      show v' 81 (1250 * k + 140 + i) = _
      rw [rowA _ (by omega) (by omega)]
      simp only [pickS_c]
      (repeat (first | rw [if_pos (by omega)] | rw [if_neg (by omega)]))
      exact congrArg (v 19) (by omega)
  · show v' 81 (1250 * k + 150 + n) = _
    rw [rowA _ (by omega) (by omega)]
    simp only [pickS_c]
    (repeat (first | rw [if_pos (by omega)] | rw [if_neg (by omega)]))
    exact congrArg (v 53) (by omega)
  · show v' 81 (1250 * k + 64 + 0) = _
    rw [e, if_neg (by omega), if_pos rfl]
  · rw [e, if_neg (by omega), if_neg (by omega), pickS_out _ _ (by omega)]
end
