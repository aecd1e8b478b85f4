/-! PURE 98t: plan: the reference; the call. -/
section
variable {G : GG} {own : Nat → Nat} {R X c t U : Nat} {h h1 h2 h' : AH} {w w' w1 w2 w3 x x1 x2 x' : MS} {v v' : VV}
theorem i366 (k b a : Nat) : ((366 : Int32) * nI k + (61 : Int32) * nI b) + nI a = nI (366 * k + 61 * b + a) := by
  show (nI 366 * nI k + nI 61 * nI b) + nI a = _
  rw [pk_mul, pk_mul, nI_add, nI_add]
theorem j366 (k a : Nat) : (366 : Int32) * nI k + nI a = nI (366 * k + a) := by
  show nI 366 * nI k + nI a = _
  rw [pk_mul, nI_add]
/-- the reference's rows from a mile on -/
def LsW (x : MS) (V : Nat → VV) (N i : Nat) : Prop := ∀ y b, y < 61 → b < 6 → x.1 65 (366 * i + 61 * b + y) = lsN V N i y b
theorem p_costIf {V : Nat → VV} {N i a b : Nat} (hN : N ≤ 24) (hi : i < N) (ha : a < 61) (hb : b < 6) (hP : PlW x (V i) i) (hL : LsW x V N (i + 1)) : p_X12_costIf G (nI i) (nI a) (nI b) x = some (csN V N i a b, x) := by
  have xi : ixn 24 (nI i) = true := u_ixn (by omega) (by decide)
  have ci : (nI i).toNatClampNeg = i := nI_clamp (by omega)
  obtain ⟨y, hy, ey⟩ := warm_n (nI a) (kv (V i) (sL (V i))) (nI b) (coldV (V i) ((V i) 1 10))
  unfold p_X12_costIf p_X12_fromMile
  rw [u_ck xi, u_ck xi, p_warmer, u_cw, ci, hP.2.2.1, hP.2.2.2, ey, i61', u_ck (u_ixn (by omega) (by decide)), i6', u_ck (u_ixn (by omega) (by decide)), nI_1, i366, u_ck (u_ixn (by omega) (by decide)), u_cw, nI_clamp (show 61 * i + a < 2 ^ 31 by omega), nI_clamp (show 6 * i + b < 2 ^ 31 by omega), nI_clamp (show 366 * (i + 1) + 61 * b + y < 2 ^ 31 by omega), hP.1 a ha, hP.2.1 b hb, hL y b (by omega) hb, csN_e, ey, nI_clamp (show y < 2 ^ 31 by omega)]
theorem p_bestHole {V : Nat → VV} {N i a b : Nat} (hN : N ≤ 24) (hi : i < N) (ha : a < 61) (hb : b < 6) (hP : PlW x (V i) i) (hL : LsW x V N (i + 1)) : p_X12_bestHole G (nI i) (nI a) (nI b) x = some (nI (bst (csN V N i a) b), x) := by
  have co : ∀ q, q < 6 → p_X12_costIf G (nI i) (nI a) (nI q) x = some (csN V N i a q, x) := fun q hq => p_costIf hN hi ha hq hP hL
  have m1 : ∀ q : Nat, q < 6 → ¬ nI q = -1 := fun q hq => nI_m1 (by omega)
  generalize csN V N i a = f at co
  have go : ∀ n p q, p < 6 → q < 6 → q ≤ b + 1 → lw2 (P_X12_bestHole_8 G (nI i) (nI a) (nI b)) (n + 1) (nI p) (nI q) x = (if f q < f p then lw2 (P_X12_bestHole_8 G (nI i) (nI a) (nI b)) n (nI q) (nI (q + 1)) x else lw2 (P_X12_bestHole_8 G (nI i) (nI a) (nI b)) n (nI p) (nI (q + 1)) x) := fun n p q hp hq hqb => by
    show P_X12_bestHole_8 G (nI i) (nI a) (nI b) _ _ _ _ = _
    rw [P_X12_bestHole_8, nI_1, if_neg (nI_nlt (by omega) (by omega)), p_in5, u_cw, u_nn, if_pos (show (0 : Int32) ≤ nI q ∧ nI q ≤ 5 from ⟨nI_pos' (by omega), nI_le (b := 5) (by omega) (by omega)⟩), if_neg n10, u_nn, if_neg (m1 p hp), co q hq, u_cw, co p hp, u_cw, if_nlt]
    by_cases z : f p ≤ f q
    · rw [if_pos z, if_pos z]; dsimp only; rw [u_nn, nI_1]
    · rw [if_neg z, if_neg z]; dsimp only; rw [u_nn, nI_1]
  have fi : ∀ n q, q < 6 → q ≤ b + 1 → lw2 (P_X12_bestHole_8 G (nI i) (nI a) (nI b)) (n + 1) (-1) (nI q) x = lw2 (P_X12_bestHole_8 G (nI i) (nI a) (nI b)) n (nI q) (nI (q + 1)) x := fun n q hq hqb => by
    show P_X12_bestHole_8 G (nI i) (nI a) (nI b) _ _ _ _ = _
    rw [P_X12_bestHole_8, nI_1, if_neg (nI_nlt (by omega) (by omega)), p_in5, u_cw, u_nn, if_pos (show (0 : Int32) ≤ nI q ∧ nI q ≤ 5 from ⟨nI_pos' (by omega), nI_le (b := 5) (by omega) (by omega)⟩), if_neg n10, u_nn, if_pos rfl]
    dsimp only; rw [u_nn, nI_1]
  have st : ∀ n p q, q = b + 2 → lw2 (P_X12_bestHole_8 G (nI i) (nI a) (nI b)) (n + 1) (nI p) (nI q) x = some (nI p, x) := fun n p q hq => by
    show P_X12_bestHole_8 G (nI i) (nI a) (nI b) _ _ _ _ = _
    rw [P_X12_bestHole_8, nI_1, if_pos (nI_lt (by omega) (by omega))]
  have ov : ∀ n p, b = 5 → lw2 (P_X12_bestHole_8 G (nI i) (nI a) (nI b)) (n + 1) (nI p) (nI 6) x = lw2 (P_X12_bestHole_8 G (nI i) (nI a) (nI b)) n (nI p) (nI 7) x := fun n p hb5 => by
    subst hb5
    show P_X12_bestHole_8 G (nI i) (nI a) (nI 5) _ _ _ _ = _
    rw [P_X12_bestHole_8, nI_1, if_neg (nI_nlt (by omega) (by omega)), p_in5, u_cw, u_nn, if_pos (by decide)]
    dsimp only; rw [u_nn, nI_1]
  have un : ∀ n, b = 0 → lw2 (P_X12_bestHole_8 G (nI i) (nI a) (nI b)) (n + 1) (-1) (nI 0 - 1) x = lw2 (P_X12_bestHole_8 G (nI i) (nI a) (nI b)) n (-1) (nI 0) x := fun n hb0 => by
    subst hb0
    show P_X12_bestHole_8 G (nI i) (nI a) (nI 0) _ _ _ _ = _
    rw [P_X12_bestHole_8, if_neg (by decide), p_in5, u_cw, u_nn, if_pos (by decide)]
    dsimp only; rw [u_nn]; rfl
  unfold p_X12_bestHole
  rw [u_nn]
  have key : ∀ n, 4 < n → lw2 (P_X12_bestHole_8 G (nI i) (nI a) (nI b)) n (-1) (nI b - 1) x = some (nI (bst f b), x) := fun n hn => by
    obtain ⟨n, rfl⟩ : ∃ m, n = m + 5 := ⟨n - 5, by omega⟩
    unfold bst
    by_cases b0 : b = 0
    · subst b0
      rw [if_pos rfl, un _ rfl, fi _ _ (by omega) (by omega), go _ _ _ (by omega) (by omega) (by omega)]
      by_cases z : f (0 + 1) < f 0
      · rw [if_pos z, if_pos (show f 1 < f 0 from z), st _ _ _ (by omega)]
      · rw [if_neg z, if_neg (show ¬ f 1 < f 0 from z), st _ _ _ (by omega)]
    · obtain ⟨b', rfl⟩ : ∃ j, b = j + 1 := ⟨b - 1, by omega⟩
      rw [nI_pred, fi _ _ (by omega) (by omega), if_neg b0, go _ _ _ (by omega) (by omega) (by omega), Nat.add_sub_cancel]
      by_cases b5 : b' + 1 = 5
      · have e4 : b' = 4 := by omega
        subst e4
        rw [if_pos rfl]
        by_cases z : f (4 + 1) < f 4
        · rw [if_pos z, if_pos (show f 5 < f 4 from z), ov _ _ rfl, st _ _ _ (by omega)]
        · rw [if_neg z, if_neg (show ¬ f 5 < f 4 from z), ov _ _ rfl, st _ _ _ (by omega)]
      · rw [if_neg b5]
        by_cases z : f (b' + 1) < f b'
        · rw [if_pos z, if_pos z, go _ _ _ (by omega) (by omega) (by omega)]
          by_cases y : f (b' + 1 + 1) < f (b' + 1)
          · rw [if_pos y, if_pos y, st _ _ _ (by omega)]
          · rw [if_neg y, if_neg y, st _ _ _ (by omega)]
        · rw [if_neg z, if_neg z, go _ _ _ (by omega) (by omega) (by omega)]
          by_cases y : f (b' + 1 + 1) < f b'
          · rw [if_pos y, if_pos y, st _ _ _ (by omega)]
          · rw [if_neg y, if_neg y, st _ _ _ (by omega)]
  exact key bN (bN_gt (by decide))
theorem zero65 {N : Nat} (hN : N ≤ 24) : ∀ (d q n : Nat) (x : MS), q + d = 366 → d < n → ∃ x2, Fw (fun r => r = 65) x x2 ∧ x2.2 = x.2 ∧ (∀ a, q ≤ a → a < 366 → x2.1 65 (366 * N + a) = 0) ∧ (∀ j, j < 366 * N + q → x2.1 65 j = x.1 65 j) ∧ ∀ K, lw1 (P_X12_findsPlan_7 G (nI N) K) n (nI q) x = K x2
  | 0, q, n + 1, x, e, _ => by
    refine ⟨x, Fw.rf, rfl, fun a h1 h2 => by omega, fun _ _ => rfl, fun K => ?_⟩
    show P_X12_findsPlan_7 G (nI N) K _ _ _ = _
    rw [P_X12_findsPlan_7, if_pos (show (366 : Int32) ≤ nI q from nI_le (a := 366) (by omega) (by omega))]
  | d + 1, q, n + 1, x, e, hn => by
    obtain ⟨x2, a1, a2, a3, a4, a5⟩ := zero65 hN d (q + 1) n (w_si x 65 (366 * N + q) 0) (by omega) (by omega)
    refine ⟨x2, Fw.s1.tr a1, a2, fun a h1 h2 => ?_, fun j hj => by rw [a4 j (by omega), w_si_j (by omega)], fun K => ?_⟩
    · by_cases z : a = q
      · subst z; rw [a4 _ (by omega), w_si_s]
      · exact a3 a (by omega) h2
    · show P_X12_findsPlan_7 G (nI N) K _ _ _ = _
      rw [P_X12_findsPlan_7, if_neg (show ¬ (366 : Int32) ≤ nI q from nI_ge (b := 366) (by omega) (by omega)), j366, u_ck (u_ixn (by omega) (by decide)), u_nn, nI_clamp (by omega), u_nn, nI_1]
      exact a5 K
theorem PlW.fw {k : Nat} (q : PlW x v k) (hF : Fw (fun r => r = 65) x x2) : PlW x2 v k := by
  unfold PlW at q ⊢; rw [hF 66 (by decide), hF 67 (by decide), hF 68 (by decide), hF 69 (by decide)]; exact q
theorem row_warm {V : Nat → VV} {N i b : Nat} (hN : N ≤ 24) (hi : i < N) (hb : b < 6) (s : Int32) : ∀ (d a n : Nat) (x : MS), a + d = 61 → d < n → PlW x (V i) i → LsW x V N (i + 1) → (∀ y, y < a → x.1 65 (366 * i + 61 * b + y) = lsN V N i y b) → ∃ x2, Fw (fun r => r = 65) x x2 ∧ x2.2 = x.2 ∧ (∀ y, y < 61 → x2.1 65 (366 * i + 61 * b + y) = lsN V N i y b) ∧ (∀ j, j < 366 * i + 61 * b ∨ 366 * (i + 1) ≤ j → x2.1 65 j = x.1 65 j) ∧ ∀ K, lw1 (P_X12_findsPlan_52 G s (nI i) (nI b) K) n (nI a) x = K x2
  | 0, a, n + 1, x, e, _, hP, hL, hy => by
    refine ⟨x, Fw.rf, rfl, fun y h1 => hy y (by omega), fun _ _ => rfl, fun K => ?_⟩
    show P_X12_findsPlan_52 G s (nI i) (nI b) K _ _ _ = _
    rw [P_X12_findsPlan_52, if_pos (show (60 : Int32) < nI a from nI_lt (a := 60) (by omega) (by omega))]
  | d + 1, a, n + 1, x, e, hn, hP, hL, hy => by
    have hF1 : Fw (fun r => r = 65) x (w_si x 65 (366 * i + 61 * b + a) (lsN V N i a b)) := Fw.s1
    obtain ⟨x2, a1, a2, a3, a4, a5⟩ := row_warm (V := V) hN hi hb s d (a + 1) n (w_si x 65 (366 * i + 61 * b + a) (lsN V N i a b)) (by omega) (by omega) (hP.fw hF1) (fun y b' h1 h2 => by rw [w_si_j (by omega)]; exact hL y b' h1 h2) (fun y h1 => by
      by_cases z : y = a
      · subst z; rw [w_si_s]
      · rw [w_si_j (by omega)]; exact hy y (by omega))
    refine ⟨x2, hF1.tr a1, a2, a3, fun j hj => by rw [a4 j hj, w_si_j (by omega)], fun K => ?_⟩
    show P_X12_findsPlan_52 G s (nI i) (nI b) K _ _ _ = _
    rw [P_X12_findsPlan_52, if_neg (show ¬ (60 : Int32) < nI a from nI_nlt (b := a) (a := 60) (by omega) (by omega)), p_bestHole hN hi (by omega) hb hP hL, u_cw, p_costIf hN hi (by omega) (bst_le _ hb) hP hL, u_cw, i366, u_ck (u_ixn (by omega) (by decide)), u_nn, nI_clamp (by omega), ← lsN_i V hi, u_nn, nI_1]
    exact a5 K
theorem row_hole {V : Nat → VV} {N i : Nat} (hN : N ≤ 24) (hi : i < N) (s : Int32) : ∀ (d b n : Nat) (x : MS), b + d = 6 → d < n → PlW x (V i) i → LsW x V N (i + 1) → (∀ y b', y < 61 → b' < b → x.1 65 (366 * i + 61 * b' + y) = lsN V N i y b') → ∃ x2, Fw (fun r => r = 65) x x2 ∧ x2.2 = x.2 ∧ LsW x2 V N i ∧ (∀ j, 366 * (i + 1) ≤ j → x2.1 65 j = x.1 65 j) ∧ ∀ K, lw1 (P_X12_findsPlan_43 G s (nI i) K) n (nI b) x = K x2
  | 0, b, n + 1, x, e, _, hP, hL, hy => by
    refine ⟨x, Fw.rf, rfl, fun y b' h1 h2 => hy y b' h1 (by omega), fun _ _ => rfl, fun K => ?_⟩
    show P_X12_findsPlan_43 G s (nI i) K _ _ _ = _
    rw [P_X12_findsPlan_43, if_pos (show (6 : Int32) ≤ nI b from nI_le (a := 6) (by omega) (by omega))]
  | d + 1, b, n + 1, x, e, hn, hP, hL, hy => by
    obtain ⟨xa, a1, a2, a3, a4, a5⟩ := row_warm (G := G) (V := V) hN hi (b := b) (by omega) s 61 0 bN x rfl (bN_gt (by decide)) hP hL (fun y hy => by omega)
    obtain ⟨x2, b1, b2, b3, b4, b5⟩ := row_hole (V := V) hN hi s d (b + 1) n xa (by omega) (by omega) (hP.fw a1) (fun y b' h1 h2 => by rw [a4 _ (by omega)]; exact hL y b' h1 h2) (fun y b' h1 h2 => by
      by_cases z : b' = b
      · subst z; exact a3 y h1
      · rw [a4 _ (by omega)]; exact hy y b' h1 (by omega))
    refine ⟨x2, a1.tr b1, b2.trans a2, b3, fun j hj => by rw [b4 j hj, a4 j (by omega)], fun K => ?_⟩
    show P_X12_findsPlan_43 G s (nI i) K _ _ _ = _
    rw [P_X12_findsPlan_43, if_neg (show ¬ (6 : Int32) ≤ nI b from nI_ge (b := 6) (by omega) (by omega))]
    refine (a5 _).trans ?_
    rw [u_nn, nI_1]; exact b5 K
theorem row_miles {V : Nat → VV} {N : Nat} (hN : N ≤ 24) (s : Int32) : ∀ (k n : Nat) (x : MS), k ≤ N → k < n → (∀ i, i < N → PlW x (V i) i) → (∀ i, k ≤ i → i ≤ N → LsW x V N i) → ∃ x2, Fw (fun r => r = 65) x x2 ∧ x2.2 = x.2 ∧ (∀ i, i ≤ N → LsW x2 V N i) ∧ ∀ K, lw1 (P_X12_findsPlan_37 G s K) n (nI k - 1) x = K x2
  | 0, n + 1, x, _, _, hP, hL => by
    refine ⟨x, Fw.rf, rfl, fun i hi => hL i (Nat.zero_le _) hi, fun K => ?_⟩
    show P_X12_findsPlan_37 G s K _ _ _ = _
    rw [P_X12_findsPlan_37, if_pos (by decide)]
  | k + 1, n + 1, x, hk, hn, hP, hL => by
    obtain ⟨xa, a1, a2, a3, a4, a5⟩ := row_hole (G := G) (V := V) hN (i := k) (by omega) s 6 0 bN x rfl (bN_gt (by decide)) (hP k (by omega)) (hL (k + 1) (Nat.le_refl _) hk) (fun y b' h1 h2 => by omega)
    obtain ⟨x2, b1, b2, b3, b4⟩ := row_miles (V := V) hN s k n xa (by omega) (by omega) (fun i hi => (hP i hi).fw a1) (fun i h1 h2 => by
      by_cases z : i = k
      · subst z; exact a3
      · intro y b h3 h4
        rw [a4 _ (by omega)]; exact hL i (by omega) h2 y b h3 h4)
    refine ⟨x2, a1.tr b1, b2.trans a2, b3, fun K => ?_⟩
    have e1 : nI (k + 1) - 1 = nI k := nI_pred k
    have e2 : nI k + -1 = nI k - 1 := by rw [Int32.sub_eq_add_neg]
    show P_X12_findsPlan_37 G s K _ _ _ = _
    rw [P_X12_findsPlan_37, e1, if_neg (nI_pos (by omega))]
    refine (a5 _).trans ?_
    rw [u_nn, e2]; exact b4 K
theorem plan_path {V : Nat → VV} {N a b : Nat} (hN : N ≤ 24) (ha : a < 61) (hb : b < 6) (s : Int32) : ∀ (d i n : Nat) (x : MS), i + d = N → d < n → (∀ i, i < N → PlW x (V i) i) → (∀ i, i ≤ N → LsW x V N i) → (∀ j, j < i → x.1 70 j = nI (pth V N a b (j + 1)).2) → ∃ x2, Fw (fun r => r = 70) x x2 ∧ x2.2 = x.2 ∧ (∀ j, j < N → x2.1 70 j = nI (pth V N a b (j + 1)).2) ∧ lw3 (P_X12_findsPlan_138 G (nI N) s) n (nI (pth V N a b i).2) (nI (pth V N a b i).1) (nI i) x = some (s, x2)
  | 0, i, n + 1, x, e, _, hP, hL, hp => by
    have : i = N := by omega
    subst this
    refine ⟨x, Fw.rf, rfl, hp, ?_⟩
    show P_X12_findsPlan_138 G (nI i) s _ _ _ _ _ = _
    rw [P_X12_findsPlan_138, if_pos (nI_le (Nat.le_refl _) (by omega))]
  | d + 1, i, n + 1, x, e, hn, hP, hL, hp => by
    have ok := pth_ok V N ha hb i
    have hF1 : Fw (fun r => r = 70) x (w_si x 70 i (nI (pth V N a b (i + 1)).2)) := Fw.s1
    obtain ⟨x2, a1, a2, a3, a4⟩ := plan_path (V := V) (a := a) (b := b) hN ha hb s d (i + 1) n (w_si x 70 i (nI (pth V N a b (i + 1)).2)) (by omega) (by omega) (fun j hj => by
      have := hP j hj
      unfold PlW at this ⊢
      rw [hF1 66 (by decide), hF1 67 (by decide), hF1 68 (by decide), hF1 69 (by decide)]; exact this) (fun j hj => by
      have := hL j hj
      unfold LsW at this ⊢
      rw [hF1 65 (by decide)]; exact this) (fun j hj => by
      by_cases z : j = i
      · subst z; rw [w_si_s]
      · rw [w_si_j z]; exact hp j (by omega))
    refine ⟨x2, hF1.tr a1, a2, a3, ?_⟩
    have xi : ixn 24 (nI i) = true := u_ixn (by omega) (by decide)
    have ci : (nI i).toNatClampNeg = i := nI_clamp (by omega)
    have eb : nI (bst (csN V N i (pth V N a b i).1) (pth V N a b i).2) = nI (pth V N a b (i + 1)).2 := rfl
    show P_X12_findsPlan_138 G (nI N) s _ _ _ _ _ = _
    rw [P_X12_findsPlan_138, if_neg (nI_ge (show i < N by omega) (by omega)), p_bestHole hN (by omega) ok.1 ok.2 (hP i (by omega)) (hL (i + 1) (by omega)), u_cw, u_ck xi, eb, u_nn, ci, u_ck xi, u_ck xi, p_warmer, u_cw, w_si_r (show (68 : Nat) ≠ 70 by decide), w_si_r (show (69 : Nat) ≠ 70 by decide), (hP i (by omega)).2.2.1, (hP i (by omega)).2.2.2, pth_w, u_nn, nI_1]
    exact a4
end
