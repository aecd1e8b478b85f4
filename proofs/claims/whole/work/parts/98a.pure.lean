/-! PURE 98a: images: all rows laid back. -/
section
variable {G : GG} {w w' w1 w2 w3 : MS} {v v' v0 : VV}
theorem lodS_no {m : Nat} {v : VV} {k j : Nat} : ∀ (rs : List (Nat × Nat × Nat)) (b : Nat), (∀ q ∈ rs, q.1 ≠ k) → lodS m rs b v k j = v k j
  | [], _, _ => rfl
  | (r, s, l) :: rest, b, hq => by
    rw [lodS_c, if_neg (fun z => hq (r, s, l) (by simp) z.1.symm)]
    exact lodS_no rest (b + l) (fun q hq' => hq q (by simp [hq']))
theorem lod_b (v : VV) (b k j : Nat) : lodS 81 (sgs R7) b v k j = if k = 1 ∧ j < 17 then v 81 (b + j) else if k = 2 ∧ j < 7 then v 81 (b + 17 + j) else if k = 8 ∧ j < 8 then v 81 (b + 24 + j) else if k = 9 ∧ j < 8 then v 81 (b + 32 + j) else if k = 10 ∧ j < 8 then v 81 (b + 40 + j) else if k = 11 ∧ j < 8 then v 81 (b + 48 + j) else if k = 12 ∧ j < 8 then v 81 (b + 56 + j) else v k j := by
  show lodS 81 [(1, 0, 17), (2, 0, 7), (8, 0, 8), (9, 0, 8), (10, 0, 8), (11, 0, 8), (12, 0, 8)] b v k j = _
  rw [lodS_c, lodS_c, lodS_c, lodS_c, lodS_c, lodS_c, lodS_c]
  simp only [Nat.zero_le, true_and, Nat.zero_add, Nat.sub_zero]
  rfl
theorem lod_A (v : VV) (b k j : Nat) : lodS 81 (sgs RA) (b + 65) v k j = if k = 3 ∧ j < 8 then v 81 (b + 65 + j) else if k = 4 ∧ j < 8 then v 81 (b + 73 + j) else if k = 5 ∧ j < 8 then v 81 (b + 81 + j) else if k = 6 ∧ j < 8 then v 81 (b + 89 + j) else if k = 7 ∧ j < 8 then v 81 (b + 97 + j) else if k = 13 ∧ j < 5 then v 81 (b + 105 + j) else if k = 14 ∧ j < 5 then v 81 (b + 110 + j) else if k = 15 ∧ j < 5 then v 81 (b + 115 + j) else if k = 16 ∧ j < 5 then v 81 (b + 120 + j) else if k = 17 ∧ j < 5 then v 81 (b + 125 + j) else if k = 18 ∧ j < 10 then v 81 (b + 130 + j) else if k = 19 ∧ j < 10 then v 81 (b + 140 + j) else if k = 53 ∧ j < 1020 then v 81 (b + 150 + j) else v k j := by
  show lodS 81 [(3, 0, 8), (4, 0, 8), (5, 0, 8), (6, 0, 8), (7, 0, 8), (13, 0, 5), (14, 0, 5), (15, 0, 5), (16, 0, 5), (17, 0, 5), (18, 0, 10), (19, 0, 10), (53, 0, 1020)] (b + 65) v k j = _
  rw [lodS_c, lodS_c, lodS_c, lodS_c, lodS_c, lodS_c, lodS_c, lodS_c, lodS_c, lodS_c, lodS_c, lodS_c, lodS_c]
  simp only [Nat.zero_le, true_and, Nat.zero_add, Nat.sub_zero]
  rfl
def RwL (r : Nat) : Prop := (1 ≤ r ∧ r ≤ 19) ∨ r = 53
/-- all rows are laid back from the k-th place -/
theorem p_lays {k : Nat} (hk : k < 4) : ∃ w', p_X12_carriesAll G (nI k) 1 w = some w' ∧ (∀ r, r ≠ 0 → r ≠ 54 → ¬ RwL r → w'.1 r = w.1 r) ∧ (∀ i, i ≠ 55 → i ≠ 83 → i ≠ 84 → w'.1 0 i = w.1 0 i) ∧ w'.1 0 55 = w.1 81 (1250 * k + 64) ∧ w'.2 = w.2 ∧ PW (img w.1 k) w'.1 ∧ ∀ n, n < 1020 → w'.1 53 n = img w.1 k 53 n := by
  have hL : lenS (sgs RA) = 1105 := by decide
  have hL7 : lenS (sgs R7) = 64 := by decide
  have hL5 : lenS (sgs [54]) = 1 := by decide
  let wz := w_si (w_si w 0 83 (nI (1250 * k))) 0 84 1
  have zr : ∀ r, r ≠ 0 → wz.1 r = w.1 r := fun r hr => by
    show (w_si (w_si w 0 83 _) 0 84 _).1 r = _
    rw [w_si_r hr, w_si_r hr]
  have z0 : ∀ i, i ≠ 83 → i ≠ 84 → wz.1 0 i = w.1 0 i := fun i q1 q2 => by
    show (w_si (w_si w 0 83 _) 0 84 _).1 0 i = _
    rw [w_si_j q2, w_si_j q1]
  obtain ⟨w16, f1, g1, g2, g4, g5⟩ := run_load (G := G) R7 (1250 * k) wz (by decide) (by decide) (by omega) (by show (w_si (w_si w 0 83 _) 0 84 _).1 0 83 = _; rw [w_si_j (by decide), w_si_s]) (w_si_s _ _ _ _)
  let w20 := w_si w16 54 0 (w16.1 0 55)
  have r20 : ∀ r, r ≠ 54 → w20.1 r = w16.1 r := fun r hr => w_si_r hr
  have no7 : ∀ r, r ≠ 0 → r ∉ R7 → w16.1 r = w.1 r := fun r q1 q2 => by
    funext j
    rw [g5 r q1, lodS_no _ _ (fun q hq => ?_), zr r q1]
    intro e
    simp only [sgs, List.mem_map] at hq
    obtain ⟨r', hr', rfl⟩ := hq
    exact q2 (by rw [← e]; exact hr')
  obtain ⟨w21, e1, a1, a2, a4, a5⟩ := run_load (G := G) [54] (1250 * k + 64) w20 (by decide) (by decide) (by omega) (by rw [r20 0 (by decide), g1]; rfl) (by rw [r20 0 (by decide), g2 84 (by decide)]; exact w_si_s _ _ _ _)
  have r21 : ∀ r, r ≠ 0 → r ≠ 54 → w21.1 r = w16.1 r := fun r q1 q2 => by
    funext j
    rw [a5 r q1, lodS_no _ _ (fun q hq => ?_), r20 r q2]
    intro e
    simp only [sgs, List.mem_map] at hq
    obtain ⟨r', hr', rfl⟩ := hq
    simp only [List.mem_cons, List.not_mem_nil, or_false] at hr'
    exact q2 (by rw [← e]; exact hr')
  have x81 : w16.1 81 = w.1 81 := no7 81 (by decide) (by decide)
  have y54 : w21.1 54 0 = w.1 81 (1250 * k + 64) := by
    rw [a5 54 (by decide)]
    show lodS 81 [(54, 0, 1)] _ _ _ _ = _
    rw [lodS_c, if_pos (by decide), r20 81 (by decide), x81]
  let w24 := w_si w21 0 55 (w21.1 54 0)
  have r24 : ∀ r, r ≠ 0 → w24.1 r = w21.1 r := fun r hr => w_si_r hr
  have z24 : ∀ i, i ≠ 55 → w24.1 0 i = w21.1 0 i := fun i hi => w_si_j hi
  obtain ⟨w49, c1, d1, d2, d4, d5⟩ := run_load (G := G) RA (1250 * k + 65) w24 (by decide) (by decide) (by omega) (by rw [z24 83 (by decide), a1]; rfl) (by rw [z24 84 (by decide), a2 84 (by decide), r20 0 (by decide), g2 84 (by decide)]; exact w_si_s _ _ _ _)
  have noA : ∀ r, r ≠ 0 → r ≠ 54 → r ∉ RA → w49.1 r = w16.1 r := fun r q1 q2 q3 => by
    funext j
    rw [d5 r q1, lodS_no _ _ (fun q hq => ?_), r24 r q1, r21 r q1 q2]
    intro e
    simp only [sgs, List.mem_map] at hq
    obtain ⟨r', hr', rfl⟩ := hq
    exact q3 (by rw [← e]; exact hr')
  have s81 : w24.1 81 = w.1 81 := by rw [r24 81 (by decide), r21 81 (by decide) (by decide), x81]
  refine ⟨w49, ?_, fun r q1 q2 q3 => ?_, fun i q1 q2 q3 => by rw [d2 i q2, z24 i q1, a2 i q2, r20 0 (by decide), g2 i q2, z0 i q2 q3], ?_, by rw [d4]; exact a4.trans g4, ?_, ?_⟩
  · have e : (1250 : Int32) * nI k = nI (1250 * k) := by rw [show (1250 : Int32) = nI 1250 from rfl, pk_mul]
    have n4 : ¬ nI k = 4 := fun z => by rw [I_eq, nI_toInt (by omega)] at z; have i4 : (4 : Int32).toInt = 4 := rfl; omega
    rw [carries_e _ _ _ n4 (by decide), e, show runL G R7 (w_si (w_si w 0 83 (nI (1250 * k))) 0 84 1) = some w16 from f1, u_ob, show runL G [54] (w_si w16 54 0 (w16.1 0 55)) = some w21 from e1, u_ob]
    exact c1
  · unfold RwL at q3
    rw [noA r q1 q2 (by unfold RA; simp only [List.mem_cons, List.not_mem_nil, or_false]; omega), no7 r q1 (by unfold R7; simp only [List.mem_cons, List.not_mem_nil, or_false]; omega)]
  · rw [d2 55 (by decide)]
    show (w_si w21 0 55 _).1 0 55 = _
    rw [w_si_s, y54]
  · have key7 : ∀ r j, r ∈ R7 → w49.1 r j = lodS 81 (sgs R7) (1250 * k) w.1 r j := fun r j hr => by
      have h0 : r ≠ 0 ∧ r ≠ 54 ∧ r ∉ RA := by revert hr; revert r; decide
      rw [noA r h0.1 h0.2.1 h0.2.2, g5 r h0.1, lod_b, lod_b, zr 81 (by decide), zr r h0.1]
    have keyA : ∀ r j, r ∈ RA → w49.1 r j = lodS 81 (sgs RA) (1250 * k + 65) w24.1 r j := fun r j hr => by
      have h0 : r ≠ 0 := by revert hr; revert r; decide
      rw [d5 r h0]
    intro r q1 q2 i hi
    by_cases z : r ∈ R7
    · rw [key7 r i z, lod_b]
      unfold img
      unfold R7 at z
      simp only [List.mem_cons, List.not_mem_nil, or_false] at z
      rcases z with rfl | rfl | rfl | rfl | rfl | rfl | rfl
      · have hj : i < 17 := hi
        simp [hj]
      · have hj : i < 7 := hi
        simp [hj]
      · have hj : i < 8 := hi
        simp [hj]
      · have hj : i < 8 := hi
        simp [hj]
      · have hj : i < 8 := hi
        simp [hj]
      · have hj : i < 8 := hi
        simp [hj]
      · have hj : i < 8 := hi
        simp [hj]
    · have z2 : r = 3 ∨ r = 4 ∨ r = 5 ∨ r = 6 ∨ r = 7 ∨ r = 13 ∨ r = 14 ∨ r = 15 ∨ r = 16 ∨ r = 17 ∨ r = 18 ∨ r = 19 := by
        unfold R7 at z
        simp only [List.mem_cons, List.not_mem_nil, or_false] at z
        omega
      rw [keyA r i (by unfold RA; simp only [List.mem_cons, List.not_mem_nil, or_false]; omega), lod_A, s81]
      unfold img
      rcases z2 with rfl | rfl | rfl | rfl | rfl | rfl | rfl | rfl | rfl | rfl | rfl | rfl
      · have hj : i < 8 := hi
        simp [hj]
      · have hj : i < 8 := hi
        simp [hj]
      · have hj : i < 8 := hi
        simp [hj]
      · have hj : i < 8 := hi
        simp [hj]
      · have hj : i < 8 := hi
        simp [hj]
      · have hj : i < 5 := hi
        simp [hj]
      · have hj : i < 5 := hi
        simp [hj]
      · have hj : i < 5 := hi
        simp [hj]
      · have hj : i < 5 := hi
        simp [hj]
      · have hj : i < 5 := hi
        simp [hj]
      · have hj : i < 10 := hi
        simp [hj]
      · have hj : i < 10 := hi
        simp [hj]
  · intro n hn
    rw [d5 53 (by decide), lod_A, s81]
    unfold img
    simp [hn]
end
