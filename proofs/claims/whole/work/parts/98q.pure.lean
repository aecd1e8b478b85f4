/-! PURE 98q: plan: what the reference takes from each mile. -/
section
variable {G : GG} {own : Nat → Nat} {R X c t U : Nat} {h h1 h2 h' : AH} {w w' w1 w2 w3 x x1 x2 x' : MS} {v v' : VV}
def R67 (r : Nat) : Prop := 65 ≤ r ∧ r ≤ 70
theorem R67.st (hS : St x.1) (hF : Fw R67 x x') : St x'.1 := hS.cg (fun r q1 q2 _ => hF r (by unfold R67; omega))
theorem R67.e (hF : Fw R67 x x') {r : Nat} (hr : r < 65) : x'.1 r = x.1 r := hF r (by unfold R67; omega)
theorem zero66 {k : Nat} (hk : k < 24) : ∀ (d q n : Nat) (x : MS), q + d = 61 → d < n → ∃ x2, Fw (fun r => r = 66) x x2 ∧ x2.2 = x.2 ∧ (∀ a, q ≤ a → a < 61 → x2.1 66 (61 * k + a) = 0) ∧ (∀ j, j < 61 * k + q → x2.1 66 j = x.1 66 j) ∧ ∀ b K, lw1 (P_X12_laysMiles_13 G b (nI k) K) n (nI q) x = K x2
  | 0, q, n + 1, x, e, _ => by
    refine ⟨x, Fw.rf, rfl, fun a h1 h2 => by omega, fun _ _ => rfl, fun b K => ?_⟩
    show P_X12_laysMiles_13 G b (nI k) K _ _ _ = _
    rw [P_X12_laysMiles_13, if_pos (show (60 : Int32) < nI q from nI_lt (a := 60) (by omega) (by omega))]
  | d + 1, q, n + 1, x, e, hn => by
    obtain ⟨x2, a1, a2, a3, a4, a5⟩ := zero66 hk d (q + 1) n (w_si x 66 (61 * k + q) 0) (by omega) (by omega)
    refine ⟨x2, Fw.s1.tr a1, a2, fun a h1 h2 => ?_, fun j hj => by rw [a4 j (by omega), w_si_j (by omega)], fun b K => ?_⟩
    · by_cases z : a = q
      · subst z; rw [a4 _ (by omega), w_si_s]
      · exact a3 a (by omega) h2
    · show P_X12_laysMiles_13 G b (nI k) K _ _ _ = _
      rw [P_X12_laysMiles_13, if_neg (show ¬ (60 : Int32) < nI q from nI_nlt (b := q) (a := 60) (by omega) (by omega)), i61', u_ck (u_ixn (by omega) (by decide)), u_nn, nI_clamp (by omega), u_nn, nI_1]
      exact a5 b K
theorem zero67 {k : Nat} (hk : k < 24) : ∀ (d q n : Nat) (x : MS), q + d = 6 → d < n → ∃ x2, Fw (fun r => r = 67) x x2 ∧ x2.2 = x.2 ∧ (∀ a, q ≤ a → a < 6 → x2.1 67 (6 * k + a) = 0) ∧ (∀ j, j < 6 * k + q → x2.1 67 j = x.1 67 j) ∧ ∀ b K, lw1 (P_X12_laysMiles_39 G b (nI k) K) n (nI q) x = K x2
  | 0, q, n + 1, x, e, _ => by
    refine ⟨x, Fw.rf, rfl, fun a h1 h2 => by omega, fun _ _ => rfl, fun b K => ?_⟩
    show P_X12_laysMiles_39 G b (nI k) K _ _ _ = _
    rw [P_X12_laysMiles_39, if_pos (show (6 : Int32) ≤ nI q from nI_le (a := 6) (by omega) (by omega))]
  | d + 1, q, n + 1, x, e, hn => by
    obtain ⟨x2, a1, a2, a3, a4, a5⟩ := zero67 hk d (q + 1) n (w_si x 67 (6 * k + q) 0) (by omega) (by omega)
    refine ⟨x2, Fw.s1.tr a1, a2, fun a h1 h2 => ?_, fun j hj => by rw [a4 j (by omega), w_si_j (by omega)], fun b K => ?_⟩
    · by_cases z : a = q
      · subst z; rw [a4 _ (by omega), w_si_s]
      · exact a3 a (by omega) h2
    · show P_X12_laysMiles_39 G b (nI k) K _ _ _ = _
      rw [P_X12_laysMiles_39, if_neg (show ¬ (6 : Int32) ≤ nI q from nI_ge (b := 6) (by omega) (by omega)), i6', u_ck (u_ixn (by omega) (by decide)), u_nn, nI_clamp (by omega), u_nn, nI_1]
      exact a5 b K
/-- one rider's part, by warmth -/
theorem warm_in (hS : St v) {k q : Nat} (hk : k < 24) (hq : q < sN v) (hr : v 10 q = 1) : ∀ (d a n : Nat) (x : MS), a + d = 61 → d < n → (∀ r, r ≤ 17 → x.1 r = v r) → (∀ y, y < 61 → x.1 66 (61 * k + y) = if y < a then wpP v (nI y) (q + 1) else wpP v (nI y) q) → ∃ x2, Fw (fun r => r = 66) x x2 ∧ x2.2 = x.2 ∧ (∀ y, y < 61 → x2.1 66 (61 * k + y) = wpP v (nI y) (q + 1)) ∧ (∀ j, j < 61 * k → x2.1 66 j = x.1 66 j) ∧ ∀ b K, lw1 (P_X12_laysMiles_79 G b (nI k) (nI q) K) n (nI a) x = K x2
  | 0, a, n + 1, x, e, _, hv, hy => by
    refine ⟨x, Fw.rf, rfl, fun y h1 => by rw [hy y h1, if_pos (by omega)], fun _ _ => rfl, fun b K => ?_⟩
    show P_X12_laysMiles_79 G b (nI k) (nI q) K _ _ _ = _
    rw [P_X12_laysMiles_79, if_pos (show (60 : Int32) < nI a from nI_lt (a := 60) (by omega) (by omega))]
  | d + 1, a, n + 1, x, e, hn, hv, hy => by
    have hSx : St x.1 := hS.cg (fun r q1 q2 _ => hv r q2)
    have eN : sN x.1 = sN v := by unfold sN; rw [hv 1 (by decide)]
    have hqx : q < sN x.1 := by rw [eN]; exact hq
    obtain ⟨x2, a1, a2, a3, a4, a5⟩ := warm_in hS hk hq hr d (a + 1) n (w_si x 66 (61 * k + a) (wpP v (nI a) (q + 1))) (by omega) (by omega) (fun r q1 => by rw [w_si_r (by omega)]; exact hv r q1) (fun y h1 => by
      by_cases z : y = a
      · subst z; rw [w_si_s, if_pos (by omega)]
      · rw [w_si_j (by omega), hy y h1]
        by_cases y1 : y < a
        · rw [if_pos y1, if_pos (by omega)]
        · rw [if_neg y1, if_neg (by omega)])
    refine ⟨x2, Fw.s1.tr a1, a2, a3, fun j hj => by rw [a4 j hj, w_si_j (by omega)], fun b K => ?_⟩
    show P_X12_laysMiles_79 G b (nI k) (nI q) K _ _ _ = _
    have ew : x.1 66 (61 * k + a) + (nI a - x.1 6 q) * (nI a - x.1 6 q) = wpP v (nI a) (q + 1) := by
      rw [hy a (by omega), if_neg (by omega), hv 6 (by decide), wpP_s, if_neg (by rw [hr]; decide)]
    rw [P_X12_laysMiles_79, if_neg (show ¬ (60 : Int32) < nI a from nI_nlt (b := a) (a := 60) (by omega) (by omega)), p_rides hSx hqx, u_cw, hv 10 (by decide), hr, if_neg n10, u_nn, i61', u_ck (u_ixn (by omega) (by decide)), u_ck (q8 hSx hqx)]
    unfold p_X12_square
    rw [u_cw, u_ck (u_ixn (by omega) (by decide)), u_nn, qc hSx hqx, nI_clamp (by omega), ew, u_nn, nI_1]
    exact a5 b K
theorem hole_in (hS : St v) {k q : Nat} (hk : k < 24) (hq : q < sN v) (hr : v 10 q = 1) : ∀ (d a n : Nat) (x : MS), a + d = 6 → d < n → (∀ r, r ≤ 17 → x.1 r = v r) → (∀ y, y < 6 → x.1 67 (6 * k + y) = if y < a then hpP v (nI y) (q + 1) else hpP v (nI y) q) → ∃ x2, Fw (fun r => r = 67) x x2 ∧ x2.2 = x.2 ∧ (∀ y, y < 6 → x2.1 67 (6 * k + y) = hpP v (nI y) (q + 1)) ∧ (∀ j, j < 6 * k → x2.1 67 j = x.1 67 j) ∧ ∀ b K, lw1 (P_X12_laysMiles_130 G b (nI k) (nI q) K) n (nI a) x = K x2
  | 0, a, n + 1, x, e, _, hv, hy => by
    refine ⟨x, Fw.rf, rfl, fun y h1 => by rw [hy y h1, if_pos (by omega)], fun _ _ => rfl, fun b K => ?_⟩
    show P_X12_laysMiles_130 G b (nI k) (nI q) K _ _ _ = _
    rw [P_X12_laysMiles_130, if_pos (show (6 : Int32) ≤ nI a from nI_le (a := 6) (by omega) (by omega))]
  | d + 1, a, n + 1, x, e, hn, hv, hy => by
    have hSx : St x.1 := hS.cg (fun r q1 q2 _ => hv r q2)
    have eN : sN x.1 = sN v := by unfold sN; rw [hv 1 (by decide)]
    have hqx : q < sN x.1 := by rw [eN]; exact hq
    obtain ⟨x2, a1, a2, a3, a4, a5⟩ := hole_in hS hk hq hr d (a + 1) n (w_si x 67 (6 * k + a) (hpP v (nI a) (q + 1))) (by omega) (by omega) (fun r q1 => by rw [w_si_r (by omega)]; exact hv r q1) (fun y h1 => by
      by_cases z : y = a
      · subst z; rw [w_si_s, if_pos (by omega)]
      · rw [w_si_j (by omega), hy y h1]
        by_cases y1 : y < a
        · rw [if_pos y1, if_pos (by omega)]
        · rw [if_neg y1, if_neg (by omega)])
    refine ⟨x2, Fw.s1.tr a1, a2, a3, fun j hj => by rw [a4 j hj, w_si_j (by omega)], fun b K => ?_⟩
    show P_X12_laysMiles_130 G b (nI k) (nI q) K _ _ _ = _
    have et : tunV x.1 (x.1 1 10) = tunV v (v 1 10) := by
      rw [hv 1 (by decide)]
      exact tunV_cg (fun r hr => hv r (by omega))
    have ew : x.1 67 (6 * k + a) + ((airI (x.1 9 q) (nI a) - x.1 7 q) * (airI (x.1 9 q) (nI a) - x.1 7 q) + (if tunV v (v 1 10) then 9 * nI a else 0)) = hpP v (nI a) (q + 1) := by
      rw [hy a (by omega), if_neg (by omega), hv 9 (by decide), hv 7 (by decide), hpP_s, if_neg (show ¬ v 10 q = 0 by rw [hr]; decide)]; rfl
    rw [P_X12_laysMiles_130, if_neg (show ¬ (6 : Int32) ≤ nI a from nI_ge (b := 6) (by omega) (by omega)), p_rides hSx hqx, u_cw, hv 10 (by decide), hr, if_neg n10, u_nn, i6', u_ck (u_ixn (by omega) (by decide)), u_ck (q8 hSx hqx), p_airOf, u_cw, u_ck (q8 hSx hqx)]
    unfold p_X12_square
    rw [u_cw, u_ck ix_17_10, tn_10, p_isTunnel hSx, u_cw, u_nn, qc hSx hqx, nI_clamp (by omega), et]
    by_cases z : tunV v (v 1 10) = true
    · rw [if_pos z] at ew
      rw [if_pos z, if_neg n10]; dsimp only; rw [u_ck (u_ixn (by omega) (by decide)), u_nn, ew, u_nn, nI_1]; exact a5 b K
    · rw [if_neg z] at ew
      rw [if_neg z, if_pos rfl]; dsimp only; rw [u_ck (u_ixn (by omega) (by decide)), u_nn, ew, u_nn, nI_1]; exact a5 b K
theorem part_loop (hS : St v) {k : Nat} (hk : k < 24) : ∀ (d q n : Nat) (x : MS), q + d = sN v → d < n → (∀ r, r ≤ 17 → x.1 r = v r) → (∀ y, y < 61 → x.1 66 (61 * k + y) = wpP v (nI y) q) → (∀ y, y < 6 → x.1 67 (6 * k + y) = hpP v (nI y) q) → ∃ x2, Fw (fun r => r = 66 ∨ r = 67) x x2 ∧ x2.2 = x.2 ∧ (∀ y, y < 61 → x2.1 66 (61 * k + y) = wpP v (nI y) (sN v)) ∧ (∀ y, y < 6 → x2.1 67 (6 * k + y) = hpP v (nI y) (sN v)) ∧ (∀ j, j < 61 * k → x2.1 66 j = x.1 66 j) ∧ (∀ j, j < 6 * k → x2.1 67 j = x.1 67 j) ∧ ∀ b K, lw1 (P_X12_laysMiles_65 G b (nI k) K) n (nI q) x = K x2
  | 0, q, n + 1, x, e, _, hv, h66, h67 => by
    have eq : q = sN v := by omega
    subst eq
    refine ⟨x, Fw.rf, rfl, h66, h67, fun _ _ => rfl, fun _ _ => rfl, fun b K => ?_⟩
    show P_X12_laysMiles_65 G b (nI k) K _ _ _ = _
    rw [P_X12_laysMiles_65, u_ck ix_17_6, tn_6, hv 1 (by decide), if_pos (of_eq_true (nle_N hS))]
  | d + 1, q, n + 1, x, e, hn, hv, h66, h67 => by
    have hq : q < sN v := by omega
    have hSx : St x.1 := hS.cg (fun r q1 q2 _ => hv r q2)
    have eN : sN x.1 = sN v := by unfold sN; rw [hv 1 (by decide)]
    have hqx : q < sN x.1 := by rw [eN]; exact hq
    rcases ab01 hS hq with z | z
    · have w0 : ∀ y, wpP v (nI y) (q + 1) = wpP v (nI y) q := fun y => by rw [wpP_s, if_pos z]
      have p0 : ∀ y, hpP v (nI y) (q + 1) = hpP v (nI y) q := fun y => by rw [hpP_s, if_pos z]
      obtain ⟨x2, a1, a2, a3, a4, a5, a6, a7⟩ := part_loop hS hk d (q + 1) n x (by omega) (by omega) hv (fun y hy => by rw [w0]; exact h66 y hy) (fun y hy => by rw [p0]; exact h67 y hy)
      refine ⟨x2, a1, a2, a3, a4, a5, a6, fun b K => ?_⟩
      show P_X12_laysMiles_65 G b (nI k) K _ _ _ = _
      rw [P_X12_laysMiles_65, u_ck ix_17_6, tn_6, hv 1 (by decide), if_neg (of_eq_false (nle_q hS hq))]
      have l1 : ∀ K, lw1 (P_X12_laysMiles_79 G b (nI k) (nI q) K) bN 0 x = K x := fun K => by
        have : ∀ m, 0 < m → lw1 (P_X12_laysMiles_79 G b (nI k) (nI q) K) m 0 x = K x := fun m hm => by
          obtain ⟨m, rfl⟩ : ∃ j, m = j + 1 := ⟨m - 1, by omega⟩
          show P_X12_laysMiles_79 G b (nI k) (nI q) K _ _ _ = _
          rw [P_X12_laysMiles_79, if_neg (by decide), p_rides hSx hqx, u_cw, hv 10 (by decide), z, if_pos rfl]
        exact this bN (bN_gt (by decide))
      have l2 : ∀ K, lw1 (P_X12_laysMiles_130 G b (nI k) (nI q) K) bN 0 x = K x := fun K => by
        have : ∀ m, 0 < m → lw1 (P_X12_laysMiles_130 G b (nI k) (nI q) K) m 0 x = K x := fun m hm => by
          obtain ⟨m, rfl⟩ : ∃ j, m = j + 1 := ⟨m - 1, by omega⟩
          show P_X12_laysMiles_130 G b (nI k) (nI q) K _ _ _ = _
          rw [P_X12_laysMiles_130, if_neg (by decide), p_rides hSx hqx, u_cw, hv 10 (by decide), z, if_pos rfl]
        exact this bN (bN_gt (by decide))
      refine (l1 _).trans ((l2 _).trans ?_)
      rw [u_nn, nI_1]; exact a7 b K
    · obtain ⟨xa, a1, a2, a3, a4, a5⟩ := warm_in (G := G) hS hk hq z 61 0 bN x rfl (bN_gt (by decide)) hv (fun y hy => by rw [if_neg (by omega)]; exact h66 y hy)
      obtain ⟨xb, b1, b2, b3, b4, b5⟩ := hole_in (G := G) hS hk hq z 6 0 bN xa rfl (bN_gt (by decide)) (fun r hr => by rw [a1 r (by omega)]; exact hv r hr) (fun y hy => by rw [if_neg (by omega), a1 67 (by decide)]; exact h67 y hy)
      obtain ⟨x2, c1, c2, c3, c4, c5, c6, c7⟩ := part_loop hS hk d (q + 1) n xb (by omega) (by omega) (fun r hr => by rw [b1 r (by omega), a1 r (by omega)]; exact hv r hr) (fun y hy => by rw [b1 66 (by decide)]; exact a3 y hy) b3
      refine ⟨x2, ((a1.wk (fun r hr => Or.inl hr)).tr (b1.wk (fun r hr => Or.inr hr))).tr c1, c2.trans (b2.trans a2), c3, c4, fun j hj => by rw [c5 j hj, b1 66 (by decide), a4 j hj], fun j hj => by rw [c6 j hj, b4 j hj, a1 67 (by decide)], fun b K => ?_⟩
      show P_X12_laysMiles_65 G b (nI k) K _ _ _ = _
      rw [P_X12_laysMiles_65, u_ck ix_17_6, tn_6, hv 1 (by decide), if_neg (of_eq_false (nle_q hS hq))]
      refine (a5 b _).trans ((b5 b _).trans ?_)
      rw [u_nn, nI_1]; exact c7 b K
theorem cntP_cg (e : Eqv v v') (k : Nat) : cntP v' k = cntP v k := by unfold cntP; rw [e.2 10 (by decide) (by decide) (by decide) (by decide)]
theorem wpP_cg (e : Eqv v v') (a : Int32) (k : Nat) : wpP v' a k = wpP v a k := by unfold wpP; rw [e.2 10 (by decide) (by decide) (by decide) (by decide), e.2 6 (by decide) (by decide) (by decide) (by decide)]
theorem Eqv.tun (e : Eqv v v') (m : Int32) : tunV v' m = tunV v m := by
  unfold tunV sT; rw [e.1 8 (by decide), e.2 13 (by decide) (by decide) (by decide) (by decide), e.2 14 (by decide) (by decide) (by decide) (by decide)]
theorem Eqv.cold (e : Eqv v v') (m : Int32) : coldV v' m = coldV v m := by
  unfold coldV sC; rw [e.1 9 (by decide), e.2 15 (by decide) (by decide) (by decide) (by decide), e.2 16 (by decide) (by decide) (by decide) (by decide), e.2 17 (by decide) (by decide) (by decide) (by decide)]
theorem hpP_cg (e : Eqv v v') (a : Int32) (k : Nat) : hpP v' a k = hpP v a k := by
  unfold hpP tollV; rw [e.2 10 (by decide) (by decide) (by decide) (by decide), e.2 9 (by decide) (by decide) (by decide) (by decide), e.2 7 (by decide) (by decide) (by decide) (by decide), e.tun, e.1 10 (by decide)]
theorem Eqv.kn (e : Eqv v v') (k : Nat) : kv v' k = kv v k := by
  unfold kv; rw [e.1 12 (by decide), e.2 2 (by decide) (by decide) (by decide) (by decide)]
/-- what the reference knows of the k-th mile -/
def PlW (x : MS) (v : VV) (k : Nat) : Prop := (∀ y, y < 61 → x.1 66 (61 * k + y) = wpP v (nI y) (sN v)) ∧ (∀ y, y < 6 → x.1 67 (6 * k + y) = hpP v (nI y) (sN v)) ∧ x.1 68 k = kv v (sL v) ∧ x.1 69 k = coldV v (v 1 10)
def RLy (r : Nat) : Prop := r = 1 ∨ r = 2 ∨ r = 9 ∨ r = 10 ∨ (66 ≤ r ∧ r ≤ 69)
theorem lays_one (hC : Cab h c t w.1) (hS : Sta w.1) (hm : (w.1 1 10).toInt < 240) (he : Eqv w.1 x.1) (hb : Bz x.1) {r : Int32} (hw : p_X12_rolls G w = some (r, w2)) {k : Nat} (hk : k < 24) : ∃ x2, Eqv w2.1 x2.1 ∧ Bz x2.1 ∧ Fw RLy x x2 ∧ x2.2 = x.2 ∧ (∀ i, i ≠ 10 → x2.1 1 i = x.1 1 i) ∧ PlW x2 w.1 k ∧ (∀ v' j, j < k → PlW x v' j → PlW x2 v' j) ∧ ∀ n K self, k < n → n ≤ 24 → P_X12_laysMiles_6 G (nI n) K self (nI k) x = self (nI (k + 1)) x2 := by
  obtain ⟨h2, w2', r', -, c2, -, -, -, -, -, -, -, -, -, hc, wc, wd, m1, m2, m3, m4, m5, m6, m7, m8, m9, m10⟩ := roll_mid (G := G) hC hS.1 hS.2.1 hS.2.2 hm
  rw [hw] at c2
  obtain ⟨-, rfl⟩ := Prod.mk.inj (Option.some.inj c2)
  have hSx := he.st hS.1 hb
  have eN := he.N
  obtain ⟨xa, a1, a2, a3, a4, a5⟩ := zero66 (G := G) hk 61 0 bN x rfl (bN_gt (by decide))
  obtain ⟨xb, b1, b2, b3, b4, b5⟩ := zero67 (G := G) hk 6 0 bN xa rfl (bN_gt (by decide))
  have vb : ∀ r, r ≤ 17 → xb.1 r = x.1 r := fun r hr => by rw [b1 r (by omega), a1 r (by omega)]
  obtain ⟨xc, d1, d2, d3, d4, d5, d6, d7⟩ := part_loop (G := G) hSx hk (sN x.1) 0 bN xb (Nat.zero_add _) (bN8 hSx) vb (fun y hy => by rw [b1 66 (by decide), a3 y (by omega) hy]; rfl) (fun y hy => by rw [b3 y (by omega) hy]; rfl)
  have vc : ∀ r, r ≤ 17 → xc.1 r = x.1 r := fun r hr => by rw [d1 r (by omega)]; exact vb r hr
  have vf : ∀ r, r ≠ 66 → r ≠ 67 → xc.1 r = x.1 r := fun r q1 q2 => by rw [d1 r (by omega), b1 r (by omega), a1 r (by omega)]
  have l6 := st_L6 hSx
  have hkL : (w_si xc 2 0 (x.1 1 12)).1 2 (sL x.1) = kv x.1 (sL x.1) := by
    unfold kv
    by_cases z : sL x.1 = 0
    · rw [z, if_pos rfl, w_si_s]
    · rw [if_neg z, w_si_j z, vc 2 (by decide)]
  have hS8 : ∀ gk, St (w_si (w_si xc 2 0 (x.1 1 12)) 68 k gk).1 := fun gk => by
    have e1 : (w_si (w_si xc 2 0 (x.1 1 12)) 68 k gk).1 1 = x.1 1 := by rw [w_si_r (by decide), w_si_r (by decide), vc 1 (by decide)]
    refine hSx.r1 (fun r q1 q2 q3 => by rw [w_si_r (by omega), w_si_r (by omega), vc r (by omega)]) (fun i _ => by rw [e1]) (by rw [e1]; exact st_mile hSx) (by rw [e1]; exact st_warm hSx) (by rw [e1]; exact st_hole hSx) (fun i hi => ?_)
    have := st_kv hSx hi
    unfold kv at this ⊢
    by_cases z : i = 0
    · rw [if_pos z] at this ⊢; rw [e1]; exact this
    · rw [if_neg z] at this ⊢; rw [w_si_r (by decide), w_si_j z, vc 2 (by decide)]; exact this
  have hc8 : coldV (w_si (w_si xc 2 0 (x.1 1 12)) 68 k (kv x.1 (sL x.1))).1 (x.1 1 10) = coldV x.1 (x.1 1 10) := coldV_cg (fun r hr => by rw [w_si_r (by omega), w_si_r (by omega), vc r (by omega)])
  obtain ⟨xk, k1, k2, k3, k4⟩ := p_knobMoves_at G 6 bN (w_si (w_si (w_si xc 2 0 (x.1 1 12)) 68 k (kv x.1 (sL x.1))) 69 k (coldV x.1 (x.1 1 10))) (bN_gt (by decide)) (by decide)
  have hk1 : xk.1 1 = x.1 1 := by rw [k3 1 (by decide), w_si_r (by decide), w_si_r (by decide), w_si_r (by decide), vc 1 (by decide)]
  have hr1 : ∀ i, i ≠ 10 → (w_si xk 1 10 (x.1 1 10 + 1)).1 1 i = x.1 1 i := fun i hi => by rw [w_si_j hi, hk1]
  have hrr : ∀ r, r ≠ 1 → r ≠ 2 → r ≤ 17 → (w_si xk 1 10 (x.1 1 10 + 1)).1 r = x.1 r := fun r q1 q2 q3 => by rw [w_si_r q1, k3 r q2, w_si_r (by omega), w_si_r (by omega), w_si_r q2, vc r q3]
  have he9 : Eqv wc.1 (w_si xk 1 10 (x.1 1 10 + 1)).1 := by
    refine ⟨fun i hi => ?_, fun r q1 q2 q3 q4 => ?_⟩
    · by_cases z : i = 10
      · subst z; rw [w_si_s, he.1 10 (by decide), m8]
      · rw [hr1 i z, he.1 i hi, m7 i z hi]
    · by_cases z : r = 2
      · subst z
        funext j
        have e2 : ∀ i, (w_si (w_si (w_si xc 2 0 (x.1 1 12)) 68 k (kv x.1 (sL x.1))) 69 k (coldV x.1 (x.1 1 10))).1 2 i = (w_si w 2 0 (w.1 1 12)).1 2 i := fun i => by
          rw [w_si_r (by decide), w_si_r (by decide), w_si_e, w_si_e, vc 2 (by decide), he.2 2 (by decide) (by decide) (by decide) (by decide), he.1 12 (by decide)]
        rw [w_si_r (by decide), k2, m9 j, e2, e2]
      · rw [hrr r (by omega) z q2, m10 r (by omega) q3 q4, he.2 r q1 q2 q3 q4]
  have hb9 : Bz (w_si xk 1 10 (x.1 1 10 + 1)).1 := by
    unfold Bz sN at hb ⊢
    rw [hr1 11 (by decide), hr1 6 (by decide), hrr 11 (by decide) (by decide) (by decide)]; exact hb
  obtain ⟨y1, y2, g1, g2, g3, g4, g5⟩ := change_sim (G := G) m1 m2 m3 m4 he9 hb9 m5 m6
  have hf : ∀ r, 11 ≤ r → r ≠ 66 → r ≠ 67 → r ≠ 68 → r ≠ 69 → y2.1 r = x.1 r := fun r q1 q2 q3 q4 q5 => by
    rw [g4 r (by omega), w_si_r (by omega), k3 r (by omega), w_si_r (by omega), w_si_r (by omega), w_si_r (by omega), vf r q2 q3]
  have h66 : y2.1 66 = xc.1 66 := by rw [g4 66 (by decide), w_si_r (by decide), k3 66 (by decide), w_si_r (by decide), w_si_r (by decide), w_si_r (by decide)]
  have h67 : y2.1 67 = xc.1 67 := by rw [g4 67 (by decide), w_si_r (by decide), k3 67 (by decide), w_si_r (by decide), w_si_r (by decide), w_si_r (by decide)]
  have h68 : y2.1 68 = (w_si (w_si xc 2 0 (x.1 1 12)) 68 k (kv x.1 (sL x.1))).1 68 := by rw [g4 68 (by decide), w_si_r (by decide), k3 68 (by decide), w_si_r (by decide)]
  have h69 : y2.1 69 = (w_si (w_si (w_si xc 2 0 (x.1 1 12)) 68 k (kv x.1 (sL x.1))) 69 k (coldV x.1 (x.1 1 10))).1 69 := by rw [g4 69 (by decide), w_si_r (by decide), k3 69 (by decide)]
  have eL : sL x.1 = sL w.1 := by unfold sL; rw [he.1 3 (by decide)]
  refine ⟨y2, g3, hb9.fw g4, fun r hr => ?_, ?_, fun i hi => by rw [g4 1 (by decide), hr1 i hi], ⟨fun y hy => ?_, fun y hy => ?_, ?_, ?_⟩, fun v' j hj q => ⟨fun y hy => ?_, fun y hy => ?_, ?_, ?_⟩, fun n K self hn hn24 => ?_⟩
  · unfold RLy at hr
    rw [g4 r (by omega), w_si_r (by omega), k3 r (by omega), w_si_r (by omega), w_si_r (by omega), w_si_r (by omega), vf r (by omega) (by omega)]
  · rw [g5]
    show xk.2 = x.2
    rw [k4]; exact d2.trans (b2.trans a2)
  · rw [h66, d3 y hy, wpP_cg he, eN]
  · rw [h67, d4 y hy, hpP_cg he, eN]
  · rw [h68, w_si_s, he.kn, eL]
  · rw [h69, w_si_s, he.cold, he.1 10 (by decide)]
  · rw [h66, d5 _ (by omega), b1 66 (by decide), a4 _ (by omega)]; exact q.1 y hy
  · rw [h67, d6 _ (by omega), b4 _ (by omega), a1 67 (by decide)]; exact q.2.1 y hy
  · rw [h68, w_si_j (by omega), w_si_r (by decide), vf 68 (by decide) (by decide)]; exact q.2.2.1
  · rw [h69, w_si_j (by omega), w_si_r (by decide), w_si_r (by decide), vf 69 (by decide) (by decide)]; exact q.2.2.2
  · rw [P_X12_laysMiles_6, if_neg (nI_ge hn (by omega))]
    refine (a5 (nI n) _).trans ((b5 (nI n) _).trans ((d7 (nI n) _).trans ?_))
    have xk24 : ixn 24 (nI k) = true := u_ixn hk (by decide)
    have ck' : (nI k).toNatClampNeg = k := nI_clamp (by omega)
    rw [u_ck ix_17_12, u_ck ix_7_0, u_nn, tn_0, tn_12, vc 1 (by decide), u_ck ix_17_3, tn_3, w_si_r (show (1 : Nat) ≠ 2 by decide), vc 1 (by decide), st_L hSx, u_ck (u_ixn (by omega) (by decide)), u_ck xk24, u_nn, ck', nI_clamp (show sL x.1 < 2 ^ 31 by omega), hkL, u_ck ix_17_10, tn_10, w_si_r (show (1 : Nat) ≠ 68 by decide), w_si_r (show (1 : Nat) ≠ 2 by decide), vc 1 (by decide), p_coldOf (hS8 _), u_cw, hc8, u_ck xk24, u_nn]
    unfold p_X12_knobMoves
    have h6 : lw1 (P_X12_knobMoves_3 G) bN 6 (w_si (w_si (w_si xc 2 0 (x.1 1 12)) 68 k (kv x.1 (sL x.1))) 69 k (coldV x.1 (x.1 1 10))) = some xk := k1
    rw [h6, u_ob, u_ck ix_17_10, u_ck ix_17_10, u_nn, hk1, g1, u_ob, g2, u_ob, u_nn, nI_1]
theorem lays_miles {N : Nat} (hN : N ≤ 24) : ∀ (d k n : Nat) (x : MS), k + d = N → d < n → Eqv (rl G w k).1 x.1 → Bz x.1 → (∀ j, k ≤ j → j < N → Sta (rl G w j).1 ∧ ((rl G w j).1 1 10).toInt < 240 ∧ ∃ h3, Cab h3 c t (rl G w j).1) → (∀ j, j < k → PlW x (rl G w j).1 j) → ∃ x2, Fw RLy x x2 ∧ (∀ j, j < N → PlW x2 (rl G w j).1 j) ∧ x2.2 = x.2 ∧ ∀ K, lw1 (P_X12_laysMiles_6 G (nI N) K) n (nI k) x = K x2
  | 0, k, n + 1, x, e, _, he, hb, hs, hp => by
    have : k = N := by omega
    subst this
    refine ⟨x, Fw.rf, hp, rfl, fun K => ?_⟩
    show P_X12_laysMiles_6 G (nI k) K _ _ _ = _
    rw [P_X12_laysMiles_6, if_pos (nI_le (Nat.le_refl _) (by omega))]
  | d + 1, k, n + 1, x, e, hn, he, hb, hs, hp => by
    obtain ⟨s1, s2, h3, s3⟩ := hs k (Nat.le_refl _) (by omega)
    obtain ⟨-, y, r, -, hy, -⟩ := roll_mid (G := G) s3 s1.1 s1.2.1 s1.2.2 s2
    have ew := rl_some hy
    obtain ⟨x2, a1, a2, a3, a4, -, a6, a7, a8⟩ := lays_one (G := G) s3 s1 s2 he hb hy (k := k) (by omega)
    rw [← ew] at a1
    obtain ⟨x3, b1, b2, b3, b4⟩ := lays_miles hN d (k + 1) n x2 (by omega) (by omega) a1 a2 (fun j q1 q2 => hs j (by omega) q2) (fun j hj => by
      by_cases z : j = k
      · subst z; exact a6
      · exact a7 _ j (by omega) (hp j (by omega)))
    refine ⟨x3, a3.tr b1, b2, b3.trans a4, fun K => ?_⟩
    show P_X12_laysMiles_6 G (nI N) K _ _ _ = _
    rw [a8 N K _ (by omega) hN]; exact b4 K
end
