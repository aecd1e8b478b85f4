/-! PURE 75: what can be undone and images, as the reference keeps them. -/
theorem w_si_same {w : MS} {k i : Nat} {x : Int32} (h : w.1 k i = x) : w_si w k i x = w := by
  refine Prod.ext ?_ rfl
  funext r j
  rw [w_si_e]
  by_cases c : r = k ∧ j = i
  · rw [if_pos c, c.1, c.2, h]
  · rw [if_neg c]
section
variable {G : GG}
theorem mv_store {w : MS} {b : Nat} {x : Int32} (hb : w.1 0 56 = nI b) (hl : b < 1020) (hg : w.1 0 57 = 0) : p_X12_moves G x w = some (x, w_si (w_si w 53 b x) 0 56 (nI (b + 1))) := by
  unfold p_X12_moves
  rw [u_nn, if_pos hg]
  dsimp only
  rw [hb, u_ck (u_ixn hl (by decide)), u_nn, u_nn, nI_clamp (by omega), w_si_r (show 0 ≠ 53 by decide), hb, nI_1]
theorem mv_load {w : MS} {b : Nat} {x : Int32} (hb : w.1 0 56 = nI b) (hl : b < 1020) (hg : w.1 0 57 = 1) : p_X12_moves G x w = some (w.1 53 b, w_si w 0 56 (nI (b + 1))) := by
  unfold p_X12_moves
  rw [u_nn, if_neg (by rw [hg]; decide), hb, u_ck (u_ixn hl (by decide))]
  dsimp only
  rw [u_ck (u_ixn hl (by decide)), u_nn, u_nn, nI_clamp (by omega), w_si_same rfl, hb, nI_1]
theorem mc_store {w : MS} {b r i : Nat} (hb : w.1 0 56 = nI b) (hl : b < 1020) (hg : w.1 0 57 = 0) (h0 : r ≠ 0) (h53 : r ≠ 53) : ∃ w', p_X12_moves G (w.1 r i) w = some (w.1 r i, w') ∧ w_si w' r i (w.1 r i) = w' ∧ Sto 53 56 [(r, i, 1)] b w w' := by
  refine ⟨w_si (w_si w 53 b (w.1 r i)) 0 56 (nI (b + 1)), mv_store hb hl hg, w_si_same (by rw [w_si_r h0, w_si_r h53]), w_si_s _ _ _ _, fun k hk => by rw [w_si_j hk, w_si_r (by decide)], fun k h1 h2 => by rw [w_si_r h1, w_si_r h2], rfl, fun j => ?_⟩
  rw [w_si_r (by decide), pickS_c]
  by_cases c : j = b
  · subst c; rw [if_pos (by omega), w_si_s, Nat.sub_self]; rfl
  · rw [if_neg (by omega), w_si_j c]; rfl
theorem mc_load {w : MS} {b r i : Nat} (hb : w.1 0 56 = nI b) (hl : b < 1020) (hg : w.1 0 57 = 1) (h0 : r ≠ 0) (h53 : r ≠ 53) : ∃ x w', p_X12_moves G (w.1 r i) w = some (x, w') ∧ Lod 53 56 [(r, i, 1)] b w (w_si w' r i x) := by
  refine ⟨w.1 53 b, w_si w 0 56 (nI (b + 1)), mv_load hb hl hg, ?_, fun k hk => ?_, rfl, fun k hk j => ?_⟩
  · rw [w_si_r (Ne.symm h0), w_si_s]; rfl
  · rw [w_si_r (Ne.symm h0), w_si_j hk]
  · rw [w_si_e, lodS_c]
    by_cases c : k = r ∧ j = i
    · rw [if_pos c, if_pos (by omega), c.2, Nat.sub_self]; rfl
    · rw [if_neg c, if_neg (by omega), w_si_r hk]; rfl
theorem mrow_store_at {r : Nat} (hr : mok r = true) (h0 : r ≠ 0) (h53 : r ≠ 53) (hl : mln r ≤ 17) : ∀ (d i n b : Nat) (w : MS), i + d = mln r → d < n → b + d ≤ 1020 → w.1 0 56 = nI b → w.1 0 57 = 0 → ∃ w', lw1 (P_X12_movesRow_2 G r) n (nI i) w = some w' ∧ Sto 53 56 [(r, i, d)] b w w'
  | 0, i, n + 1, b, w, e, _, _, hb, _ => by
    refine ⟨w, ?_, hb, fun _ _ => rfl, fun _ _ _ => rfl, rfl, fun j => ?_⟩
    · show P_X12_movesRow_2 G r _ _ _ = _
      rw [P_X12_movesRow_2, u_ck hr, if_pos (nI_le (by omega) (by omega))]
    · rw [pickS_c, if_neg (by omega)]; rfl
  | d + 1, i, n + 1, b, w, e, hn, hb2, hb, hg => by
    obtain ⟨w1, a1, a2, a3⟩ := mc_store (G := G) (i := i) hb (by omega) hg h0 h53
    obtain ⟨w', f1, f2⟩ := mrow_store_at hr h0 h53 hl d (i + 1) n (b + 1) w1 (by omega) (by omega) (by omega) a3.1 (by rw [a3.2.1 57 (by decide)]; exact hg)
    have f3 := a3.cons f2 (fun q hq => by
      simp only [List.mem_cons, List.not_mem_nil, or_false] at hq
      rcases hq with rfl | rfl <;> exact ⟨h0, h53⟩) (by decide)
    refine ⟨w', ?_, ?_⟩
    · show P_X12_movesRow_2 G r _ _ _ = _
      rw [P_X12_movesRow_2, u_ck hr, if_neg (nI_ge (by omega) (by omega)), u_ck hr, u_ck (u_ixn (by omega) (by omega)), nI_clamp (by omega), a1, u_cw, u_ck hr, u_ck (u_ixn (by omega) (by omega)), u_nn, u_nn, a2, nI_1]
      exact f1
    · obtain ⟨g1, g2, g3, g4, g5⟩ := f3
      refine ⟨by rw [g1]; simp only [lenS]; congr 1; omega, g2, g3, g4, fun j => ?_⟩
      rw [g5, pickS_c, pickS_c, pickS_c]
      by_cases c1 : b ≤ j ∧ j < b + 1
      · rw [if_pos c1, if_pos (by omega)]
      · rw [if_neg c1]
        by_cases c2 : b + 1 ≤ j ∧ j < b + 1 + d
        · rw [if_pos c2, if_pos (by omega), show i + 1 + (j - (b + 1)) = i + (j - b) by omega]
        · rw [if_neg c2, if_neg (by omega)]; rfl
theorem mrow_load_at {r : Nat} (hr : mok r = true) (h0 : r ≠ 0) (h53 : r ≠ 53) (hl : mln r ≤ 17) : ∀ (d i n b : Nat) (w : MS), i + d = mln r → d < n → b + d ≤ 1020 → w.1 0 56 = nI b → w.1 0 57 = 1 → ∃ w', lw1 (P_X12_movesRow_2 G r) n (nI i) w = some w' ∧ Lod 53 56 [(r, i, d)] b w w'
  | 0, i, n + 1, b, w, e, _, _, hb, _ => by
    refine ⟨w, ?_, hb, fun _ _ => rfl, rfl, fun k hk j => ?_⟩
    · show P_X12_movesRow_2 G r _ _ _ = _
      rw [P_X12_movesRow_2, u_ck hr, if_pos (nI_le (by omega) (by omega))]
    · rw [lodS_c, if_neg (by omega)]; rfl
  | d + 1, i, n + 1, b, w, e, hn, hb2, hb, hg => by
    obtain ⟨x, w1, a1, a3⟩ := mc_load (G := G) (i := i) hb (by omega) hg h0 h53
    obtain ⟨w', f1, f2⟩ := mrow_load_at hr h0 h53 hl d (i + 1) n (b + 1) (w_si w1 r i x) (by omega) (by omega) (by omega) a3.1 (by rw [a3.2.1 57 (by decide)]; exact hg)
    have f3 := a3.cons f2 (fun q hq => by
      simp only [List.mem_cons, List.not_mem_nil, or_false] at hq
      subst hq
      intro j h1 h2 h3
      simp only at h3
      omega) (Ne.symm h53) (by decide)
    refine ⟨w', ?_, ?_⟩
    · show P_X12_movesRow_2 G r _ _ _ = _
      rw [P_X12_movesRow_2, u_ck hr, if_neg (nI_ge (by omega) (by omega)), u_ck hr, u_ck (u_ixn (by omega) (by omega)), nI_clamp (by omega), a1, u_cw, u_ck hr, u_ck (u_ixn (by omega) (by omega)), u_nn, u_nn, nI_1]
      exact f1
    · obtain ⟨g1, g2, g3, g4⟩ := f3
      refine ⟨by rw [g1]; simp only [lenS]; congr 1; omega, g2, g3, fun k hk j => ?_⟩
      rw [g4 k hk, lodS_c, lodS_c, lodS_c]
      by_cases c1 : k = r ∧ i ≤ j ∧ j < i + 1
      · rw [if_pos c1, if_pos (by omega)]
      · rw [if_neg c1]
        by_cases c2 : k = r ∧ i + 1 ≤ j ∧ j < i + 1 + d
        · rw [if_pos c2, if_pos (by omega), show b + 1 + (j - (i + 1)) = b + (j - i) by omega]
        · rw [if_neg c2, if_neg (by omega)]; rfl
def sgP : List (Nat × Nat × Nat) := [(1, 10, 1), (1, 11, 1), (1, 12, 1), (1, 13, 1), (2, 0, 7), (8, 0, 8), (9, 0, 8), (10, 0, 8), (11, 0, 8), (12, 0, 8)]

theorem p_moves_store {w : MS} {k : Nat} (hk : k < 20) : ∃ w', p_X12_movesAll G (nI k) 0 w = some w' ∧ Sto 53 56 sgP (51 * k) (w_si (w_si w 0 56 (nI (51 * k))) 0 57 0) w' := by
  let wz := w_si (w_si w 0 56 (nI (51 * k))) 0 57 0
  have z56 : wz.1 0 56 = nI (51 * k) := by show (w_si (w_si w 0 56 _) 0 57 _).1 0 56 = _; rw [w_si_j (by decide), w_si_s]
  have z57 : wz.1 0 57 = 0 := w_si_s _ _ _ _
  obtain ⟨w0, a0, c0, f0⟩ := mc_store (G := G) (w := wz) (b := 51 * k) (r := 1) (i := 10) (z56) (by omega) (z57) (by decide) (by decide)
  have k0 : w0.1 0 57 = 0 := by rw [f0.2.1 57 (by decide)]; exact z57
  obtain ⟨w1, a1, c1, f1⟩ := mc_store (G := G) (w := w0) (b := 51 * k + 1) (r := 1) (i := 11) (f0.1) (by omega) (k0) (by decide) (by decide)
  have k1 : w1.1 0 57 = 0 := by rw [f1.2.1 57 (by decide)]; exact k0
  obtain ⟨w2, a2, c2, f2⟩ := mc_store (G := G) (w := w1) (b := 51 * k + 2) (r := 1) (i := 12) (f1.1) (by omega) (k1) (by decide) (by decide)
  have k2 : w2.1 0 57 = 0 := by rw [f2.2.1 57 (by decide)]; exact k1
  obtain ⟨w3, a3, c3, f3⟩ := mc_store (G := G) (w := w2) (b := 51 * k + 3) (r := 1) (i := 13) (f2.1) (by omega) (k2) (by decide) (by decide)
  have k3 : w3.1 0 57 = 0 := by rw [f3.2.1 57 (by decide)]; exact k2
  obtain ⟨w4, a4, f4⟩ := mrow_store_at (G := G) (r := 2) rfl (by decide) (by decide) (by decide) 7 0 bN (51 * k + 4) w3 rfl (bN_gt (by decide)) (by omega) (f3.1) (k3)
  rw [nI_0] at a4
  have k4 : w4.1 0 57 = 0 := by rw [f4.2.1 57 (by decide)]; exact k3
  obtain ⟨w5, a5, f5⟩ := mrow_store_at (G := G) (r := 8) rfl (by decide) (by decide) (by decide) 8 0 bN (51 * k + 11) w4 rfl (bN_gt (by decide)) (by omega) (f4.1) (k4)
  rw [nI_0] at a5
  have k5 : w5.1 0 57 = 0 := by rw [f5.2.1 57 (by decide)]; exact k4
  obtain ⟨w6, a6, f6⟩ := mrow_store_at (G := G) (r := 9) rfl (by decide) (by decide) (by decide) 8 0 bN (51 * k + 19) w5 rfl (bN_gt (by decide)) (by omega) (f5.1) (k5)
  rw [nI_0] at a6
  have k6 : w6.1 0 57 = 0 := by rw [f6.2.1 57 (by decide)]; exact k5
  obtain ⟨w7, a7, f7⟩ := mrow_store_at (G := G) (r := 10) rfl (by decide) (by decide) (by decide) 8 0 bN (51 * k + 27) w6 rfl (bN_gt (by decide)) (by omega) (f6.1) (k6)
  rw [nI_0] at a7
  have k7 : w7.1 0 57 = 0 := by rw [f7.2.1 57 (by decide)]; exact k6
  obtain ⟨w8, a8, f8⟩ := mrow_store_at (G := G) (r := 11) rfl (by decide) (by decide) (by decide) 8 0 bN (51 * k + 35) w7 rfl (bN_gt (by decide)) (by omega) (f7.1) (k7)
  rw [nI_0] at a8
  have k8 : w8.1 0 57 = 0 := by rw [f8.2.1 57 (by decide)]; exact k7
  obtain ⟨w9, a9, f9⟩ := mrow_store_at (G := G) (r := 12) rfl (by decide) (by decide) (by decide) 8 0 bN (51 * k + 43) w8 rfl (bN_gt (by decide)) (by omega) (f8.1) (k8)
  rw [nI_0] at a9
  have k9 : w9.1 0 57 = 0 := by rw [f9.2.1 57 (by decide)]; exact k8
  have e9 := f9
  have e8 := f8.cons e9 (by decide) (by decide)
  have e7 := f7.cons e8 (by decide) (by decide)
  have e6 := f6.cons e7 (by decide) (by decide)
  have e5 := f5.cons e6 (by decide) (by decide)
  have e4 := f4.cons e5 (by decide) (by decide)
  have e3 := f3.cons e4 (by decide) (by decide)
  have e2 := f2.cons e3 (by decide) (by decide)
  have e1 := f1.cons e2 (by decide) (by decide)
  have e0 := f0.cons e1 (by decide) (by decide)
  refine ⟨w9, ?_, e0⟩
  unfold p_X12_movesAll
  have e51 : (51 : Int32) * nI k = nI (51 * k) := by rw [show (51 : Int32) = nI 51 from rfl, pk_mul]
  rw [u_nn, e51, u_ck (by decide), u_nn]
  rw [u_ck ix_17_10, tn_10, show p_X12_moves G ((w_si (w_si w 0 56 (nI (51 * k))) 0 57 0).1 1 10) (w_si (w_si w 0 56 (nI (51 * k))) 0 57 0) = _ from a0, u_cw, u_ck ix_17_10, u_nn, c0]
  rw [u_ck ix_17_11, tn_11, a1, u_cw, u_ck ix_17_11, u_nn, c1]
  rw [u_ck ix_17_12, tn_12, a2, u_cw, u_ck ix_17_12, u_nn, c2]
  rw [u_ck ix_17_13, tn_13, a3, u_cw, u_ck ix_17_13, u_nn, c3]
  unfold p_X12_movesRow
  rw [a4, u_ob, a5, u_ob, a6, u_ob, a7, u_ob, a8, u_ob, a9, u_ob]

theorem p_moves_load {w : MS} {k : Nat} (hk : k < 20) : ∃ w', p_X12_movesAll G (nI k) 1 w = some w' ∧ Lod 53 56 sgP (51 * k) (w_si (w_si w 0 56 (nI (51 * k))) 0 57 1) w' := by
  let wz := w_si (w_si w 0 56 (nI (51 * k))) 0 57 1
  have z56 : wz.1 0 56 = nI (51 * k) := by show (w_si (w_si w 0 56 _) 0 57 _).1 0 56 = _; rw [w_si_j (by decide), w_si_s]
  have z57 : wz.1 0 57 = 1 := w_si_s _ _ _ _
  obtain ⟨x0, v0, a0, f0⟩ := mc_load (G := G) (w := wz) (b := 51 * k) (r := 1) (i := 10) (z56) (by omega) (z57) (by decide) (by decide)
  have k0 : (w_si v0 1 10 x0).1 0 57 = 1 := by rw [f0.2.1 57 (by decide)]; exact z57
  obtain ⟨x1, v1, a1, f1⟩ := mc_load (G := G) (w := (w_si v0 1 10 x0)) (b := 51 * k + 1) (r := 1) (i := 11) (f0.1) (by omega) (k0) (by decide) (by decide)
  have k1 : (w_si v1 1 11 x1).1 0 57 = 1 := by rw [f1.2.1 57 (by decide)]; exact k0
  obtain ⟨x2, v2, a2, f2⟩ := mc_load (G := G) (w := (w_si v1 1 11 x1)) (b := 51 * k + 2) (r := 1) (i := 12) (f1.1) (by omega) (k1) (by decide) (by decide)
  have k2 : (w_si v2 1 12 x2).1 0 57 = 1 := by rw [f2.2.1 57 (by decide)]; exact k1
  obtain ⟨x3, v3, a3, f3⟩ := mc_load (G := G) (w := (w_si v2 1 12 x2)) (b := 51 * k + 3) (r := 1) (i := 13) (f2.1) (by omega) (k2) (by decide) (by decide)
  have k3 : (w_si v3 1 13 x3).1 0 57 = 1 := by rw [f3.2.1 57 (by decide)]; exact k2
  obtain ⟨w4, a4, f4⟩ := mrow_load_at (G := G) (r := 2) rfl (by decide) (by decide) (by decide) 7 0 bN (51 * k + 4) (w_si v3 1 13 x3) rfl (bN_gt (by decide)) (by omega) (f3.1) (k3)
  rw [nI_0] at a4
  have k4 : w4.1 0 57 = 1 := by rw [f4.2.1 57 (by decide)]; exact k3
  obtain ⟨w5, a5, f5⟩ := mrow_load_at (G := G) (r := 8) rfl (by decide) (by decide) (by decide) 8 0 bN (51 * k + 11) w4 rfl (bN_gt (by decide)) (by omega) (f4.1) (k4)
  rw [nI_0] at a5
  have k5 : w5.1 0 57 = 1 := by rw [f5.2.1 57 (by decide)]; exact k4
  obtain ⟨w6, a6, f6⟩ := mrow_load_at (G := G) (r := 9) rfl (by decide) (by decide) (by decide) 8 0 bN (51 * k + 19) w5 rfl (bN_gt (by decide)) (by omega) (f5.1) (k5)
  rw [nI_0] at a6
  have k6 : w6.1 0 57 = 1 := by rw [f6.2.1 57 (by decide)]; exact k5
  obtain ⟨w7, a7, f7⟩ := mrow_load_at (G := G) (r := 10) rfl (by decide) (by decide) (by decide) 8 0 bN (51 * k + 27) w6 rfl (bN_gt (by decide)) (by omega) (f6.1) (k6)
  rw [nI_0] at a7
  have k7 : w7.1 0 57 = 1 := by rw [f7.2.1 57 (by decide)]; exact k6
  obtain ⟨w8, a8, f8⟩ := mrow_load_at (G := G) (r := 11) rfl (by decide) (by decide) (by decide) 8 0 bN (51 * k + 35) w7 rfl (bN_gt (by decide)) (by omega) (f7.1) (k7)
  rw [nI_0] at a8
  have k8 : w8.1 0 57 = 1 := by rw [f8.2.1 57 (by decide)]; exact k7
  obtain ⟨w9, a9, f9⟩ := mrow_load_at (G := G) (r := 12) rfl (by decide) (by decide) (by decide) 8 0 bN (51 * k + 43) w8 rfl (bN_gt (by decide)) (by omega) (f8.1) (k8)
  rw [nI_0] at a9
  have k9 : w9.1 0 57 = 1 := by rw [f9.2.1 57 (by decide)]; exact k8
  have e9 := f9
  have e8 := f8.cons e9 (by simp only [List.mem_cons, List.not_mem_nil, or_false]; rintro q hq; rcases hq with rfl <;> (intro j h1 h2 h3; simp only at h3; omega)) (by decide) (by decide)
  have e7 := f7.cons e8 (by simp only [List.mem_cons, List.not_mem_nil, or_false]; rintro q hq; rcases hq with rfl | rfl <;> (intro j h1 h2 h3; simp only at h3; omega)) (by decide) (by decide)
  have e6 := f6.cons e7 (by simp only [List.mem_cons, List.not_mem_nil, or_false]; rintro q hq; rcases hq with rfl | rfl | rfl <;> (intro j h1 h2 h3; simp only at h3; omega)) (by decide) (by decide)
  have e5 := f5.cons e6 (by simp only [List.mem_cons, List.not_mem_nil, or_false]; rintro q hq; rcases hq with rfl | rfl | rfl | rfl <;> (intro j h1 h2 h3; simp only at h3; omega)) (by decide) (by decide)
  have e4 := f4.cons e5 (by simp only [List.mem_cons, List.not_mem_nil, or_false]; rintro q hq; rcases hq with rfl | rfl | rfl | rfl | rfl <;> (intro j h1 h2 h3; simp only at h3; omega)) (by decide) (by decide)
  have e3 := f3.cons e4 (by simp only [List.mem_cons, List.not_mem_nil, or_false]; rintro q hq; rcases hq with rfl | rfl | rfl | rfl | rfl | rfl <;> (intro j h1 h2 h3; simp only at h3; omega)) (by decide) (by decide)
  have e2 := f2.cons e3 (by simp only [List.mem_cons, List.not_mem_nil, or_false]; rintro q hq; rcases hq with rfl | rfl | rfl | rfl | rfl | rfl | rfl <;> (intro j h1 h2 h3; simp only at h3; omega)) (by decide) (by decide)
  have e1 := f1.cons e2 (by simp only [List.mem_cons, List.not_mem_nil, or_false]; rintro q hq; rcases hq with rfl | rfl | rfl | rfl | rfl | rfl | rfl | rfl <;> (intro j h1 h2 h3; simp only at h3; omega)) (by decide) (by decide)
  have e0 := f0.cons e1 (by simp only [List.mem_cons, List.not_mem_nil, or_false]; rintro q hq; rcases hq with rfl | rfl | rfl | rfl | rfl | rfl | rfl | rfl | rfl <;> (intro j h1 h2 h3; simp only at h3; omega)) (by decide) (by decide)
  refine ⟨w9, ?_, e0⟩
  unfold p_X12_movesAll
  have e51 : (51 : Int32) * nI k = nI (51 * k) := by rw [show (51 : Int32) = nI 51 from rfl, pk_mul]
  rw [u_nn, e51, u_ck (by decide), u_nn]
  rw [u_ck ix_17_10, tn_10, show p_X12_moves G ((w_si (w_si w 0 56 (nI (51 * k))) 0 57 1).1 1 10) (w_si (w_si w 0 56 (nI (51 * k))) 0 57 1) = _ from a0, u_cw, u_ck ix_17_10, u_nn]
  rw [u_ck ix_17_11, tn_11, a1, u_cw, u_ck ix_17_11, u_nn]
  rw [u_ck ix_17_12, tn_12, a2, u_cw, u_ck ix_17_12, u_nn]
  rw [u_ck ix_17_13, tn_13, a3, u_cw, u_ck ix_17_13, u_nn]
  unfold p_X12_movesRow
  rw [a4, u_ob, a5, u_ob, a6, u_ob, a7, u_ob, a8, u_ob, a9, u_ob]

end
