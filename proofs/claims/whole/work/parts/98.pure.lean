/-! PURE 98: images: all rows kept and laid back. -/
def RA : List Nat := [3, 4, 5, 6, 7, 13, 14, 15, 16, 17, 18, 19, 53]
section
variable {G : GG} {w w' w1 w2 w3 : MS} {v v' v0 : VV}
theorem pickS_out {m : Nat} {v : VV} {j : Nat} : ∀ (rs : List (Nat × Nat × Nat)) (b : Nat), ¬ (b ≤ j ∧ j < b + lenS rs) → pickS m rs b v j = v m j
  | [], _, _ => rfl
  | (r, s, l) :: rest, b, hj => by
    have : lenS ((r, s, l) :: rest) = l + lenS rest := rfl
    rw [pickS_c, if_neg (by omega)]
    exact pickS_out rest (b + l) (by omega)
theorem ob_as {α β γ : Type} (a : Option α) (f : α → Option β) (g : β → Option γ) : ob (ob a f) g = ob a (fun x => ob (f x) g) := by cases a <;> rfl
theorem runL_K (w : MS) (K : MS → Option MS) : ob (runL G R7 w) K = (ob (p_X12_carryRow G 1 w) fun w4 => ob (p_X12_carryRow G 2 w4) fun w6 => ob (p_X12_carryRow G 8 w6) fun w8 => ob (p_X12_carryRow G 9 w8) fun w10 => ob (p_X12_carryRow G 10 w10) fun w12 => ob (p_X12_carryRow G 11 w12) fun w14 => ob (p_X12_carryRow G 12 w14) K) := by
  simp only [R7, runL, ob_as, u_ob]
theorem runL_A (w : MS) : (ob (p_X12_carryRow G 3 w) fun w25 => ob (p_X12_carryRow G 4 w25) fun w27 => ob (p_X12_carryRow G 5 w27) fun w29 => ob (p_X12_carryRow G 6 w29) fun w31 => ob (p_X12_carryRow G 7 w31) fun w33 => ob (p_X12_carryRow G 13 w33) fun w35 => ob (p_X12_carryRow G 14 w35) fun w37 => ob (p_X12_carryRow G 15 w37) fun w39 => ob (p_X12_carryRow G 16 w39) fun w41 => ob (p_X12_carryRow G 17 w41) fun w43 => ob (p_X12_carryRow G 18 w43) fun w45 => ob (p_X12_carryRow G 19 w45) fun w47 => ob (p_X12_carryRow G 53 w47) fun w49 => some w49) = runL G RA w := rfl
theorem carries_e (x y : Int32) (w : MS) (h4 : ¬ x = 4) (hy : y &&& 1 = y) : p_X12_carriesAll G x y w = ob (runL G R7 (w_si (w_si w 0 83 ((1250 : Int32) * x)) 0 84 y)) fun w16 => ob (runL G [54] (w_si w16 54 0 (w16.1 0 55))) fun w21 => runL G RA (w_si w21 0 55 (w21.1 54 0)) := by
  unfold p_X12_carriesAll
  rw [u_nn, u_ck hy, u_nn, runL_K]
  simp only [if_neg h4, runL_A, runL, ob_as, u_ob, u_nn, u_ck ix_1_0, tn_0]
/-- all rows are kept in the k-th place -/
theorem p_carries {k : Nat} (hk : k < 4) : ∃ w', p_X12_carriesAll G (nI k) 0 w = some w' ∧ (∀ r, r ≠ 0 → r ≠ 54 → r ≠ 81 → w'.1 r = w.1 r) ∧ (∀ i, i ≠ 83 → i ≠ 84 → w'.1 0 i = w.1 0 i) ∧ w'.2 = w.2 ∧ ∀ j, w'.1 81 j = if 1250 * k + 65 ≤ j ∧ j < 1250 * k + 65 + lenS (sgs RA) then pickS 81 (sgs RA) (1250 * k + 65) w.1 j else if j = 1250 * k + 64 then w.1 0 55 else pickS 81 (sgs R7) (1250 * k) w.1 j := by
  have hL : lenS (sgs RA) = 1105 := by decide
  have hL7 : lenS (sgs R7) = 64 := by decide
  have hL5 : lenS (sgs [54]) = 1 := by decide
  let wz := w_si (w_si w 0 83 (nI (1250 * k))) 0 84 0
  have zr : ∀ r, r ≠ 0 → wz.1 r = w.1 r := fun r hr => by
    show (w_si (w_si w 0 83 _) 0 84 _).1 r = _
    rw [w_si_r hr, w_si_r hr]
  have z0 : ∀ i, i ≠ 83 → i ≠ 84 → wz.1 0 i = w.1 0 i := fun i q1 q2 => by
    show (w_si (w_si w 0 83 _) 0 84 _).1 0 i = _
    rw [w_si_j q2, w_si_j q1]
  obtain ⟨w16, f1, g1, g2, g3, g4, g5⟩ := run_store (G := G) R7 (1250 * k) wz (by decide) (by omega) (by show (w_si (w_si w 0 83 _) 0 84 _).1 0 83 = _; rw [w_si_j (by decide), w_si_s]) (w_si_s _ _ _ _)
  let w20 := w_si w16 54 0 (w16.1 0 55)
  have r20 : ∀ r, r ≠ 54 → w20.1 r = w16.1 r := fun r hr => w_si_r hr
  obtain ⟨w21, e1, a1, a2, a3, a4, a5⟩ := run_store (G := G) [54] (1250 * k + 64) w20 (by decide) (by omega) (by rw [r20 0 (by decide), g1]; rfl) (by rw [r20 0 (by decide), g2 84 (by decide)]; exact w_si_s _ _ _ _)
  have x55 : w16.1 0 55 = w.1 0 55 := by rw [g2 55 (by decide), z0 55 (by decide) (by decide)]
  have y54 : w21.1 54 0 = w.1 0 55 := by
    rw [a3 54 (by decide) (by decide)]
    show (w_si w16 54 0 _).1 54 0 = _
    rw [w_si_s, x55]
  have y55 : w21.1 0 55 = w.1 0 55 := by rw [a2 55 (by decide), r20 0 (by decide), x55]
  have w24 : w_si w21 0 55 (w21.1 54 0) = w21 := w_si_same (by rw [y55, y54])
  obtain ⟨w49, c1, d1, d2, d3, d4, d5⟩ := run_store (G := G) RA (1250 * k + 65) w21 (by decide) (by omega) (by rw [a1]; rfl) (by rw [a2 84 (by decide), r20 0 (by decide), g2 84 (by decide)]; exact w_si_s _ _ _ _)
  have rr : ∀ r, r ≠ 0 → r ≠ 54 → r ≠ 81 → w21.1 r = w.1 r := fun r q1 q2 q3 => by rw [a3 r q1 q3, r20 r q2, g3 r q1 q3, zr r q1]
  refine ⟨w49, ?_, fun r q1 q2 q3 => by rw [d3 r q1 q3, rr r q1 q2 q3], fun i q1 q2 => by rw [d2 i q1, a2 i q1, r20 0 (by decide), g2 i q1, z0 i q1 q2], by rw [d4, a4]; exact g4, fun j => ?_⟩
  · have e : (1250 : Int32) * nI k = nI (1250 * k) := by rw [show (1250 : Int32) = nI 1250 from rfl, pk_mul]
    have n4 : ¬ nI k = 4 := fun z => by rw [I_eq, nI_toInt (by omega)] at z; have i4 : (4 : Int32).toInt = 4 := rfl; omega
    rw [carries_e _ _ _ n4 (by decide), e, show runL G R7 (w_si (w_si w 0 83 (nI (1250 * k))) 0 84 0) = some w16 from f1, u_ob, show runL G [54] (w_si w16 54 0 (w16.1 0 55)) = some w21 from e1, u_ob, w24, c1]
  · rw [d5]
    by_cases q : 1250 * k + 65 ≤ j ∧ j < 1250 * k + 65 + lenS (sgs RA)
    · rw [if_pos q]
      refine pickS_cg (fun q hq => ?_) ?_
      · have : q.1 ≠ 0 ∧ q.1 ≠ 54 ∧ q.1 ≠ 81 := by revert hq; revert q; decide
        exact rr q.1 this.1 this.2.1 this.2.2
      · rw [a5, pickS_out _ _ (by omega), r20 81 (by decide), g5, pickS_out _ _ (by omega), zr 81 (by decide)]
    · rw [if_neg q, pickS_out _ _ q, a5]
      show pickS 81 [(54, 0, 1)] _ _ _ = _
      rw [pickS_c]
      by_cases q2 : j = 1250 * k + 64
      · subst q2
        rw [if_pos (by omega), if_pos rfl, Nat.sub_self]
        show (w_si w16 54 0 _).1 54 0 = _
        rw [w_si_s, x55]
      · rw [if_neg (by omega), if_neg q2]
        show w20.1 81 j = _
        rw [r20 81 (by decide), g5]
        refine pickS_cg (fun q hq => zr q.1 ?_) (by rw [zr 81 (by decide)])
        revert hq; revert q; decide
end
