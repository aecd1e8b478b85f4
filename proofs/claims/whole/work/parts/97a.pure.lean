/-! PURE 97a: journeys, the call. -/
section
variable {G : GG} {own : Nat → Nat} {R X c t U : Nat} {h h0 h1 h2 h' : AH} {w w0 w' w1 w2 w3 wk : MS} {v v' v0 : VV} {law : Option Nat}
theorem rng_1 {α : Type} {x N : Int32} {a b : α} : (if x < 1 then a else if x ≤ N then b else a) = if 1 ≤ x ∧ x ≤ N then b else a := by
  by_cases h1 : x < 1
  · rw [if_pos h1, if_neg (fun z => by have := z.1; rw [I_lt] at h1; rw [I_le] at this; omega)]
  · rw [if_neg h1]
    have h3 : 1 ≤ x := by rw [I_lt] at h1; rw [I_le]; omega
    by_cases h2 : x ≤ N
    · rw [if_pos h2, if_pos ⟨h3, h2⟩]
    · rw [if_neg h2, if_neg (fun z => h2 z.2)]
theorem WQ.s15 (hW : WQ w w') : WQ w (w_si w' 1 15 (w.1 1 15)) := by
  obtain ⟨a1, a2, a3, a4⟩ := hW
  refine ⟨fun r q1 q2 i hi => ?_, fun k hk => by rw [w_si_r (by decide)]; exact a2 k hk, fun r hr => by rw [w_si_r (by omega)]; exact a3 r hr, fun j hj => by rw [w_si_r (by decide)]; exact a4 j hj⟩
  by_cases z : r = 1
  · subst z
    by_cases y : i = 15
    · subst y; rw [w_si_s]
    · rw [w_si_j y]; exact a1 1 q1 q2 i hi
  · rw [w_si_r z]; exact a1 r q1 q2 i hi
theorem call_journeys (x y z u : Int32) : Call X (f_X11_journeys G X x y z u) (p_X12_journeys G x y z u) := by
  intro h w ⟨own, R, hR⟩
  obtain ⟨U, c, t, hc⟩ := hR.cur
  have hB := hc.1
  have hSt := hc.2.1
  have hS := hSt.1
  have hV := hc.2.2.2.1
  have pin10 : ∀ w : MS, p_X12_in G x.toInt64 (1 : Int64) (10 : Int64) w = some (if 1 ≤ x ∧ x ≤ 10 then 1 else 0, w) := fun w => p_in_i G x 1 10 w
  have pin100 : ∀ w : MS, p_X12_in G z.toInt64 (0 : Int64) (100 : Int64) w = some (if 0 ≤ z ∧ z ≤ 100 then 1 else 0, w) := fun w => p_in_i G z 0 100 w
  have pin1 : ∀ w : MS, p_X12_in G u.toInt64 (0 : Int64) (1 : Int64) w = some (if 0 ≤ u ∧ u ≤ 1 then 1 else 0, w) := fun w => p_in_i G u 0 1 w
  unfold f_X11_journeys p_X12_journeys
  rw [u_ck hB.1.1, c_canTry hB hS, u_cb, p_isTrain hS, u_cw, rng_ge (N := 1), rng_lt (N := 100), rng_1]
  rcases told01 hS with q | told
  · rw [if_neg (show ¬ (w.1 1 0 = 1 ∧ (1 ≤ y ∧ y ≤ 60) ∧ y ≤ 240 - w.1 1 10) from fun e => absurd (q.symm.trans e.1) (by decide)), if_pos rfl, q, if_pos rfl]; exact stay hR _
  rw [show (if w.1 1 0 = 0 then (some ((-1 : Int32), w) : Option (Int32 × MS)) else _) = _ from if_neg (by rw [told]; decide), pin10, u_cw]
  by_cases hy : w.1 1 0 = 1 ∧ (1 ≤ y ∧ y ≤ 60) ∧ y ≤ 240 - w.1 1 10
  rotate_left
  · rw [if_neg hy, if_pos rfl]
    by_cases h1 : 1 ≤ x ∧ x ≤ 10
    · rw [if_pos h1, if_neg n10, pin160, u_cw]
      by_cases h60 : 1 ≤ y ∧ y ≤ 60
      · have hl : 240 - w.1 1 10 < y := Classical.byContradiction fun e => hy ⟨told, h60, by rw [I_lt] at e; rw [I_le]; omega⟩
        rw [if_pos h60, if_neg n10, p_milesLeft, u_cw, if_pos hl]; exact stay hR _
      · rw [if_neg h60, if_pos rfl]; exact stay hR _
    · rw [if_neg h1, if_pos rfl]; exact stay hR _
  rw [if_pos hy, if_neg n10]
  obtain ⟨-, h60, hl⟩ := hy
  have hl' : ¬ 240 - w.1 1 10 < y := by rw [I_le] at hl; rw [I_lt]; omega
  by_cases h1 : 1 ≤ x ∧ x ≤ 10
  rotate_left
  · rw [if_neg h1, if_neg h1, if_pos rfl]; exact stay hR _
  rw [if_pos h1, if_pos h1, if_neg n10, pin160, u_cw, if_pos h60, if_neg n10, p_milesLeft, u_cw, if_neg hl', pin100, u_cw]
  by_cases h2 : 0 ≤ z ∧ z ≤ 100
  rotate_left
  · rw [if_neg h2, if_neg h2, if_pos rfl]; exact stay hR _
  rw [if_pos h2, if_pos h2, if_neg n10, pin1, u_cw]
  by_cases h3 : 0 ≤ u ∧ u ≤ 1
  rotate_left
  · rw [if_neg h3, if_neg h3, if_pos rfl]; exact stay hR _
  rw [if_pos h3, if_pos h3, if_neg n10, u_ck hB.1.1, hB.1.2.1, u_ob, u_ck hB.1.2.2.1, u_nn, u_ck ix_17_15, u_nn, tn_15, hV.2.2.2.2.1]
  have i1 : (1 : Int32).toInt = 1 := rfl
  have i0 : (0 : Int32).toInt = 0 := rfl
  have i10 : (10 : Int32).toInt = 10 := rfl
  obtain ⟨m, rfl, hm1, hm2⟩ := nat_of (x := x) (L := 10) ⟨by have := h1.1; rw [I_le] at this ⊢; omega, h1.2⟩
  obtain ⟨n, rfl, hn1, hn2⟩ := nat_of (x := y) (L := 240 - w.1 1 10) ⟨by have := h60.1; rw [I_le] at this ⊢; omega, hl⟩
  have hleft := left_i hS
  have hm0 := (st_mile hS).1
  obtain ⟨wk, k1, -⟩ := p_keepsAll (G := G) (w := w)
  obtain ⟨a2, b2, h2', w2, z1, z2, z3, z4⟩ := js_both (G := G) (pct := z) (what := u) (M := m) (N := n) hR told k1 (by omega) (by omega) (by omega) m 0 0 0 (w.1 1 15) (m_si h X 12 (w.1 1 15)) wk (Nat.zero_add _) FrQ.x12 (JW.st k1) (m_i_ss _ _ _ _) hV.2.2.2.2.2
  rw [k1, u_ob]
  have c1 := z1 (fun v5_115 v6_115 h_115 => if u = 0 then (some (v5_115, h_115)) else some (v6_115, h_115)) bN (bN_gt (by omega))
  have p1 := z2 (w.1 1 15) (fun v7_207 h_207 => ck (ixn 17 (15 : Int32) = true) <| nn (w_si h_207 1 (15 : Int32).toNatClampNeg (w.1 1 15)) fun w71 => some (v7_207, w71)) bN (bN_gt (by omega))
  rw [show (if u = 0 then (0 : Int32) else 0) = 0 from ite_self _] at p1
  refine ⟨if u = 0 then a2 else b2, h2', w_si w2 1 15 (w.1 1 15), c1.trans ?_, p1.trans ?_, ⟨own, R, (hR.frq z3).wq z4.1.s15⟩, z3.kp hR⟩
  · by_cases q : u = 0
    · rw [if_pos q, if_pos q]
    · rw [if_neg q, if_neg q]
  · rw [u_ck ix_17_15, u_nn, tn_15]
end
