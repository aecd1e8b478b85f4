/-! PURE 98s: plan: the class solves. -/
section
variable {G : GG} {own : Nat → Nat} {R X c t U : Nat} {h h1 h2 h' : AH} {w w' w1 w2 w3 x x1 x2 x' : MS} {v v' : VV}
def pkc (f : Nat → Int32) (b : Nat) : Nat := fs (fun y a => a + bst f y * 2 ^ (3 * y)) b 0 0
theorem pkc_s (f : Nat → Int32) (b : Nat) : pkc f (b + 1) = pkc f b + bst f b * 2 ^ (3 * b) := by unfold pkc; rw [fs_snoc, Nat.zero_add]
theorem pkc_lt (f : Nat → Int32) : ∀ b, b ≤ 6 → pkc f b < 2 ^ (3 * b)
  | 0, _ => Nat.one_pos
  | b + 1, hb => by
    have h1 := pkc_lt f b (by omega)
    have h2 := bst_le f (b := b) (by omega)
    rw [pkc_s, show 3 * (b + 1) = 3 * b + 3 by omega, Nat.pow_add]
    have h3 : bst f b * 2 ^ (3 * b) ≤ 5 * 2 ^ (3 * b) := Nat.mul_le_mul_right _ (by omega)
    omega
theorem sh3 : ∀ b : Nat, b < 6 → ((((3 : Int32) * nI b) &&& 31).toBitVec.smod 32).toNat = 3 * b := by decide
theorem pkc_or (f : Nat → Int32) {b : Nat} (hb : b < 6) : nI (pkc f b) ||| (nI (bst f b) <<< (((3 : Int32) * nI b) &&& 31)) = nI (pkc f (b + 1)) := by
  have h1 := pkc_lt f b (by omega)
  have h2 := bst_le f hb
  have h3 : 2 ^ (3 * b) ≤ 2 ^ 15 := Nat.pow_le_pow_right (by decide) (by omega)
  have h4 : bst f b * 2 ^ (3 * b) ≤ 5 * 2 ^ (3 * b) := Nat.mul_le_mul_right _ (by omega)
  rw [pk_shlN _ (3 * b) (sh3 b hb) (by omega), u_or, pkc_s, Nat.or_comm]
  congr 1
  have := Nat.two_pow_add_eq_or_of_lt h1 (bst f b)
  rw [Nat.mul_comm] at this
  rw [← this, Nat.add_comm]
theorem pkc_get (f : Nat → Int32) {b : Nat} (hb : b < 6) : (nI (pkc f 6) >>> (((3 : Int32) * nI b) &&& 31)) &&& (7 : Int32) = nI (bst f b) := by
  have h1 := pkc_lt f 6 (by decide)
  rw [pk_shrN (by omega) _ (3 * b) (sh3 b hb), pk_andN (k := 3) (Nat.lt_of_le_of_lt (Nat.div_le_self _ _) (by omega)) (by decide)]
  congr 1
  have e : pkc f 6 = bst f 0 * 1 + bst f 1 * 8 + bst f 2 * 64 + bst f 3 * 512 + bst f 4 * 4096 + bst f 5 * 32768 := by
    rw [pkc_s, pkc_s, pkc_s, pkc_s, pkc_s, pkc_s]
    show 0 + _ + _ + _ + _ + _ + _ = _
    simp only [Nat.zero_add, Nat.reduceMul, Nat.reducePow, Nat.mul_zero, Nat.pow_zero]
  have b0 := bst_le f (b := 0) (by decide)
  have b1 := bst_le f (b := 1) (by decide)
  have b2 := bst_le f (b := 2) (by decide)
  have b3 := bst_le f (b := 3) (by decide)
  have b4 := bst_le f (b := 4) (by decide)
  have b5 := bst_le f (b := 5) (by decide)
  rw [e]
  match b, hb with
  | 0, _ => simp only [Nat.reduceMul, Nat.reducePow]; omega
  | 1, _ => simp only [Nat.reduceMul, Nat.reducePow]; omega
  | 2, _ => simp only [Nat.reduceMul, Nat.reducePow]; omega
  | 3, _ => simp only [Nat.reduceMul, Nat.reducePow]; omega
  | 4, _ => simp only [Nat.reduceMul, Nat.reducePow]; omega
  | 5, _ => simp only [Nat.reduceMul, Nat.reducePow]; omega
theorem chs_loop (hG : GP h X) {f : Nat → Int32} {i a : Nat} (hi : i < 24) (ha : a < 61) (hf : ∀ b, b < 6 → m_i h (X + 50) b = f b) : ∀ (d q n : Nat) (h' : AH), q + d = 6 → d < n → Fr (fun r => r = X + 52) h h' → (∀ b, b < q → m_i h' (X + 52) (6 * a + b) = f (bst f b)) → (∀ j, j < 6 * a → m_i h' (X + 52) j = m_i h (X + 52) j) → ∃ h2, Fr (fun r => r = X + 52) h h2 ∧ (∀ b, b < 6 → m_i h2 (X + 52) (6 * a + b) = f (bst f b)) ∧ (∀ j, j < 6 * a → m_i h2 (X + 52) j = m_i h (X + 52) j) ∧ ∀ K, lq2 (F_X4_solveAt_99 G (X + 44) (nI i) (nI a) K) n (nI (pkc f q)) (nI q) h' = K (nI (pkc f 6)) h2
  | 0, q, n + 1, h', e, _, hF, hb, ho => by
    have : q = 6 := by omega
    subst this
    refine ⟨h', hF, hb, ho, fun K => ?_⟩
    show F_X4_solveAt_99 G (X + 44) (nI i) (nI a) K _ _ _ _ = _
    rw [F_X4_solveAt_99, if_pos (show (6 : Int32) ≤ nI 6 from nI_le (a := 6) (by omega) (by omega))]
  | d + 1, q, n + 1, h', e, hn, hF, hb, ho => by
    have hG' := hG.fr hF
    have hf' : ∀ b, b < 6 → m_i h' (X + 50) b = f b := fun b hb => by rw [(hF.2.2.2 (X + 50) (by omega)).1]; exact hf b hb
    have hbq := bst_le f (b := q) (by omega)
    obtain ⟨h2, c1, c2, c3, c4⟩ := chs_loop hG hi ha hf d (q + 1) n (m_si h' (X + 52) (6 * a + q) (f (bst f q))) (by omega) (by omega) (hF.tr Fr.s1) (fun b h1 => by
      by_cases z : b = q
      · subst z; rw [m_i_ss]
      · rw [m_i_sj (by omega)]; exact hb b (by omega)) (fun j hj => by rw [m_i_sj (by omega)]; exact ho j hj)
    refine ⟨h2, c1, c2, c3, fun K => ?_⟩
    show F_X4_solveAt_99 G (X + 44) (nI i) (nI a) K _ _ _ _ = _
    rw [F_X4_solveAt_99, if_neg (show ¬ (6 : Int32) ≤ nI q from nI_ge (b := 6) (by omega) (by omega)), u_ck hG'.1, c_best hG' hf' (by omega), u_cb, u_ck hG'.1, hG'.r7, u_ob, hG'.r5, u_ob, u_ck (ixb_e (n := 6) hG'.2.2.2.2.2.2.2.1 hbq (by decide)), i6, u_ck (ixb_e (n := 366) hG'.2.2.2.2.2.2.2.2.2.1 (by omega) (by decide)), u_nn, nI_clamp (show 6 * a + q < 2 ^ 31 by omega), nI_clamp (show bst f q < 2 ^ 31 by omega), hf' _ hbq, u_nn, pkc_or f (by omega), u_nn, nI_1]
    exact c4 K
/-- a mile's row, warmth by warmth -/
theorem c_solveAt (hG : GP h X) (V : Nat → VV) (N : Nat) {i a : Nat} (hi : i < 24) (hiN : i < N) (ha : a < 61) (hS : St (V i)) (hP : PlC X h (V i) i) (hL : ∀ y b, y < 61 → b < 6 → m_i h (X + 53) (6 * y + b) = lsN V N (i + 1) y b) : ∃ h2, Fr (fun r => r = X + 50 ∨ r = X + 51 ∨ r = X + 52) h h2 ∧ (∀ b, b < 6 → m_i h2 (X + 52) (6 * a + b) = lsN V N i a b) ∧ (∀ j, j < 6 * a → m_i h2 (X + 52) j = m_i h (X + 52) j) ∧ m_i h2 (X + 51) (61 * i + a) = nI (pkc (csN V N i a) 6) ∧ (∀ j, j ≠ 61 * i + a → m_i h2 (X + 51) j = m_i h (X + 51) j) ∧ f_X4_solveAt G (X + 44) (nI i) (nI a) h = some h2 := by
  obtain ⟨ha1, a1, a2, a3⟩ := thr_loop (G := G) hG V N hi ha hS hP hL 6 0 bN h rfl (bN_gt (by decide)) Fr.rf (fun b hb => by omega)
  have hG1 := hG.fr a1
  obtain ⟨hb, b1, b2, b3, b4⟩ := chs_loop (G := G) hG1 (f := csN V N i a) hi ha a2 6 0 bN ha1 rfl (bN_gt (by decide)) Fr.rf (fun b hb => by omega) (fun _ _ => rfl)
  have hG2 := hG1.fr b1
  have hF : Fr (fun r => r = X + 50 ∨ r = X + 51 ∨ r = X + 52) h hb := (a1.wk (fun r hr => Or.inl hr)).tr (b1.wk (fun r hr => Or.inr (Or.inr hr)))
  have e51 : m_i hb (X + 51) = m_i h (X + 51) := by rw [(b1.2.2.2 (X + 51) (by omega)).1, (a1.2.2.2 (X + 51) (by omega)).1]
  refine ⟨m_si hb (X + 51) (61 * i + a) (nI (pkc (csN V N i a) 6)), hF.tr (Fr.si (Or.inr (Or.inl rfl))), fun b hb' => by rw [m_i_sb (by omega), b2 b hb', lsN_i V hiN], fun j hj => by rw [m_i_sb (by omega), b3 j hj, (a1.2.2.2 (X + 52) (by omega)).1], m_i_ss _ _ _ _, fun j hj => by rw [m_i_sj hj, e51], ?_⟩
  unfold f_X4_solveAt
  have ci : (nI i).toNatClampNeg = i := nI_clamp (by omega)
  rw [u_ck hG.1, hG.r0, u_ob, u_ck (ixb_e (n := 24) hG.2.2.1 hi (by decide)), hG.r1, u_ob, u_ck (ixb_e (n := 24) hG.2.2.2.1 hi (by decide)), u_nn, ci, hP.1, hP.2.1]
  refine (a3 _).trans ?_
  refine (b4 _).trans ?_
  rw [u_ck hG2.1, hG2.r6, u_ob, i61, u_ck (ixb_e (n := 1464) hG2.2.2.2.2.2.2.2.2.1 (by omega) (by decide)), u_nn, nI_clamp (show 61 * i + a < 2 ^ 31 by omega)]
theorem PlC.fr {S : Nat → Prop} {k : Nat} (q : PlC X h v k) (hF : Fr S h h') (hs : ∀ a, S a → X + 50 ≤ a) : PlC X h' v k := by
  have ei : ∀ a, a < X + 50 → m_i h' a = m_i h a := fun a ha => (hF.2.2.2 a (fun z => by have := hs a z; omega)).1
  unfold PlC at q ⊢
  rw [ei _ (by omega), ei _ (by omega), ei _ (by omega), ei _ (by omega), ei _ (by omega)]; exact q
theorem warm_loop (hG : GP h X) (V : Nat → VV) (N : Nat) {i : Nat} (hi : i < 24) (hiN : i < N) (hS : St (V i)) (hP : PlC X h (V i) i) (hL : ∀ y b, y < 61 → b < 6 → m_i h (X + 53) (6 * y + b) = lsN V N (i + 1) y b) : ∀ (d a n : Nat) (h' : AH), a + d = 61 → d < n → Fr (fun r => r = X + 50 ∨ r = X + 51 ∨ r = X + 52) h h' → (∀ y b, y < a → b < 6 → m_i h' (X + 52) (6 * y + b) = lsN V N i y b) → (∀ y, y < a → m_i h' (X + 51) (61 * i + y) = nI (pkc (csN V N i y) 6)) → (∀ j, 61 * i + 61 ≤ j → m_i h' (X + 51) j = m_i h (X + 51) j) → ∃ h2, Fr (fun r => r = X + 50 ∨ r = X + 51 ∨ r = X + 52) h h2 ∧ (∀ y b, y < 61 → b < 6 → m_i h2 (X + 52) (6 * y + b) = lsN V N i y b) ∧ (∀ y, y < 61 → m_i h2 (X + 51) (61 * i + y) = nI (pkc (csN V N i y) 6)) ∧ (∀ j, 61 * i + 61 ≤ j → m_i h2 (X + 51) j = m_i h (X + 51) j) ∧ ∀ K, lq1 (F_X4_solve_39 G (X + 44) (nI i) K) n (nI a) h' = K h2
  | 0, a, n + 1, h', e, _, hF, h1, h2, h3 => by
    refine ⟨h', hF, fun y b hy hb => h1 y b (by omega) hb, fun y hy => h2 y (by omega), h3, fun K => ?_⟩
    show F_X4_solve_39 G (X + 44) (nI i) K _ _ _ = _
    rw [F_X4_solve_39, if_pos (show (61 : Int32) ≤ nI a from nI_le (a := 61) (by omega) (by omega))]
  | d + 1, a, n + 1, h', e, hn, hF, h1, h2, h3 => by
    have hG' := hG.fr hF
    obtain ⟨ha, a1, a2, a3, a4, a5, a6⟩ := c_solveAt (G := G) hG' V N hi hiN (a := a) (by omega) hS (hP.fr hF (fun a ha => by omega)) (fun y b hy hb => by rw [(hF.2.2.2 (X + 53) (by omega)).1]; exact hL y b hy hb)
    obtain ⟨hb, b1, b2, b3, b4, b5⟩ := warm_loop hG V N hi hiN hS hP hL d (a + 1) n ha (by omega) (by omega) (hF.tr a1) (fun y b hy hb => by
      by_cases z : y = a
      · subst z; exact a2 b hb
      · rw [a3 _ (by omega)]; exact h1 y b (by omega) hb) (fun y hy => by
      by_cases z : y = a
      · subst z; exact a4
      · rw [a5 _ (by omega)]; exact h2 y (by omega)) (fun j hj => by rw [a5 _ (by omega)]; exact h3 j hj)
    refine ⟨hb, b1, b2, b3, b4, fun K => ?_⟩
    show F_X4_solve_39 G (X + 44) (nI i) K _ _ _ = _
    rw [F_X4_solve_39, if_neg (show ¬ (61 : Int32) ≤ nI a from nI_ge (b := 61) (by omega) (by omega)), u_ck hG'.1, a6, u_ob, u_nn, nI_1]
    exact b5 K
theorem cpy366 (f g : Nat → Int32) {j : Nat} (hj : j < 366) : va_cpy f g 0 0 366 j = f j := by
  rw [pk_cpy_in (by omega) (by omega), Nat.zero_add, Nat.sub_zero]
/-- all miles, from the last to the first -/
theorem mile_loop (hG : GP h X) (V : Nat → VV) {N : Nat} (hN : N ≤ 24) (hS : ∀ i, i < N → St (V i)) (hP : ∀ i, i < N → PlC X h (V i) i) : ∀ (k n : Nat) (h' : AH), k ≤ N → k < n → Fr (SSl X) h h' → (∀ y b, y < 61 → b < 6 → m_i h' (X + 52) (6 * y + b) = lsN V N k y b) → (∀ i y, k ≤ i → i < N → y < 61 → m_i h' (X + 51) (61 * i + y) = nI (pkc (csN V N i y) 6)) → ∃ h2, Fr (SSl X) h h2 ∧ (∀ y b, y < 61 → b < 6 → m_i h2 (X + 52) (6 * y + b) = lsN V N 0 y b) ∧ (∀ i y, i < N → y < 61 → m_i h2 (X + 51) (61 * i + y) = nI (pkc (csN V N i y) 6)) ∧ lq1 (F_X4_solve_17 G (X + 44)) n (nI k - 1) h' = some h2
  | 0, n + 1, h', _, _, hF, h1, h2 => by
    refine ⟨h', hF, h1, fun i y hi hy => h2 i y (Nat.zero_le _) hi hy, ?_⟩
    show F_X4_solve_17 G (X + 44) _ _ _ = _
    rw [F_X4_solve_17, if_pos (by decide)]
  | k + 1, n + 1, h', hk, hn, hF, h1, h2 => by
    have hG' := hG.fr hF
    have hFa : Fr (SSl X) h (m_sa h' (X + 53) (va_cpy (m_i h' (X + 52)) (m_i h' (X + 53)) 0 0 366)) := hF.tr (Fr.sa (by unfold SSl; omega))
    have hGa := hG.fr hFa
    have ia : ∀ a, a ≠ X + 53 → m_i (m_sa h' (X + 53) (va_cpy (m_i h' (X + 52)) (m_i h' (X + 53)) 0 0 366)) a = m_i h' a := fun a ha => by rw [m_i_sa, if_neg ha]
    obtain ⟨hb, b1, b2, b3, b4, b5⟩ := warm_loop (G := G) hGa V N (i := k) (by omega) (by omega) (hS k (by omega)) ((hP k (by omega)).fr hFa (fun a ha => by unfold SSl at ha; omega)) (fun y b hy hb => by rw [m_i_sa, if_pos rfl, cpy366 _ _ (by omega)]; exact h1 y b hy hb) 61 0 bN _ rfl (bN_gt (by decide)) Fr.rf (fun y b hy => by omega) (fun y hy => by omega) (fun _ _ => rfl)
    obtain ⟨h3, c1, c2, c3, c4⟩ := mile_loop hG V hN hS hP k n hb (by omega) (by omega) (hFa.tr (b1.wk (fun a ha => by unfold SSl; omega))) b2 (fun i y q1 q2 q3 => by
      by_cases z : i = k
      · subst z; exact b3 y q3
      · rw [b4 _ (by omega), ia _ (by omega)]; exact h2 i y (by omega) q2 q3)
    refine ⟨h3, c1, c2, c3, ?_⟩
    have e1 : nI (k + 1) - 1 = nI k := nI_pred k
    have e2 : nI k + -1 = nI k - 1 := by rw [Int32.sub_eq_add_neg]
    show F_X4_solve_17 G (X + 44) _ _ _ = _
    rw [F_X4_solve_17, e1, if_neg (nI_pos (by omega)), u_ck hG'.1, hG'.r7, u_ob, hG'.r8, u_ob, alb_e hG'.2.2.2.2.2.2.2.2.2.1, u_ob, alb_e hG'.2.2.2.2.2.2.2.2.2.2, u_ob, u_ck (by decide), u_nn, tn_0, tn_366]
    refine (b5 _).trans ?_
    rw [u_nn, e2]; exact c4
theorem c_solve (hG : GP h X) (V : Nat → VV) {N : Nat} (hN : N ≤ 24) (hS : ∀ i, i < N → St (V i)) (hP : ∀ i, i < N → PlC X h (V i) i) : ∃ h2, Fr (SSl X) h h2 ∧ (∀ y b, y < 61 → b < 6 → m_i h2 (X + 52) (6 * y + b) = lsN V N 0 y b) ∧ (∀ i y, i < N → y < 61 → m_i h2 (X + 51) (61 * i + y) = nI (pkc (csN V N i y) 6)) ∧ f_X4_solve G (X + 44) (nI N) h = some h2 := by
  obtain ⟨h1, a1, a2, a3⟩ := c_fill G (a := X + 52) (N := 366) (x := 0) (h := h) (by decide) hG.2.2.2.2.2.2.2.2.2.1
  have hF1 : Fr (SSl X) h h1 := a2.wk (fun a ha => by unfold SSl; omega)
  obtain ⟨h2, b1, b2, b3, b4⟩ := mile_loop (G := G) hG V hN hS hP N bN h1 (Nat.le_refl _) (bN_gt (by omega)) hF1 (fun y b hy hb => by rw [a3, if_pos (by omega), lsN_N]) (fun i y q1 q2 => by omega)
  refine ⟨h2, b1, b2, b3, ?_⟩
  unfold f_X4_solve
  have e : (if (24 : Int32) < nI N then (24 : Int32) else nI N) = nI N := by rw [if_neg (show ¬ (24 : Int32) < nI N from nI_nlt (a := 24) (by omega) (by omega))]
  rw [u_ck hG.1, hG.r7, u_ob, a1, u_ob, e, u_nn, u_nn]
  exact b4
/-- the way of the least, mile by mile -/
def pth (V : Nat → VV) (N a b : Nat) : Nat → Nat × Nat
  | 0 => (a, b)
  | i + 1 => ((warmI (nI (pth V N a b i).1) (kv (V i) (sL (V i))) (nI (bst (csN V N i (pth V N a b i).1) (pth V N a b i).2)) (coldV (V i) ((V i) 1 10))).toNatClampNeg, bst (csN V N i (pth V N a b i).1) (pth V N a b i).2)
theorem pth_ok (V : Nat → VV) (N : Nat) {a b : Nat} (ha : a < 61) (hb : b < 6) : ∀ i, (pth V N a b i).1 < 61 ∧ (pth V N a b i).2 < 6
  | 0 => ⟨ha, hb⟩
  | i + 1 => by
    have ih := pth_ok V N ha hb i
    obtain ⟨y, hy, ey⟩ := warm_n (nI (pth V N a b i).1) (kv (V i) (sL (V i))) (nI (bst (csN V N i (pth V N a b i).1) (pth V N a b i).2)) (coldV (V i) ((V i) 1 10))
    refine ⟨?_, bst_le _ ih.2⟩
    show (warmI _ _ _ _).toNatClampNeg < 61
    rw [ey, nI_clamp (by omega)]; omega
theorem pth_w (V : Nat → VV) (N a b i : Nat) : warmI (nI (pth V N a b i).1) (kv (V i) (sL (V i))) (nI (pth V N a b (i + 1)).2) (coldV (V i) ((V i) 1 10)) = nI (pth V N a b (i + 1)).1 := by
  obtain ⟨y, hy, ey⟩ := warm_n (nI (pth V N a b i).1) (kv (V i) (sL (V i))) (nI (bst (csN V N i (pth V N a b i).1) (pth V N a b i).2)) (coldV (V i) ((V i) 1 10))
  show warmI _ _ (nI (bst (csN V N i (pth V N a b i).1) (pth V N a b i).2)) _ = nI (warmI _ _ _ _).toNatClampNeg
  rw [ey, nI_clamp (by omega)]
theorem after_loop (hG : GP h X) (V : Nat → VV) {N a b q : Nat} (hN : N ≤ 24) (ha : a < 61) (hb : b < 6) (hq : q < N) (hP : ∀ i, i < N → PlC X h (V i) i) (hc : ∀ i y, i < N → y < 61 → m_i h (X + 51) (61 * i + y) = nI (pkc (csN V N i y) 6)) : ∀ (d i n : Nat), i + d = q + 1 → d < n → lq3 (F_X4_holeAfter_9 G (X + 44) (nI q)) n (nI (pth V N a b i).1) (nI (pth V N a b i).2) (nI i) h = some (nI (pth V N a b (q + 1)).2, h)
  | 0, i, n + 1, e, _ => by
    have : i = q + 1 := by omega
    subst this
    show F_X4_holeAfter_9 G (X + 44) (nI q) _ _ _ _ _ = _
    rw [F_X4_holeAfter_9, if_pos (nI_lt (Nat.lt_succ_self q) (by omega))]
  | d + 1, i, n + 1, e, hn => by
    have ok := pth_ok V N ha hb i
    have hi : i < N := by omega
    show F_X4_holeAfter_9 G (X + 44) (nI q) _ _ _ _ _ = _
    have ci : (nI i).toNatClampNeg = i := nI_clamp (by omega)
    have eb : (nI (pkc (csN V N i (pth V N a b i).1) 6) >>> (((3 : Int32) * nI (pth V N a b i).2) &&& 31)) &&& (7 : Int32) = nI (pth V N a b (i + 1)).2 := pkc_get _ ok.2
    rw [F_X4_holeAfter_9, if_neg (nI_nlt (by omega) (by omega)), if_neg (show ¬ (24 : Int32) ≤ nI i from nI_ge (b := 24) (by omega) (by omega)), u_ck hG.1, hG.r6, u_ob, i61, u_ck (ixb_e (n := 1464) hG.2.2.2.2.2.2.2.2.1 (by omega) (by decide)), u_nn, nI_clamp (show 61 * i + (pth V N a b i).1 < 2 ^ 31 by omega), hc i _ hi ok.1, eb, hG.r2, u_ob, u_ck (ixb_e (n := 24) hG.2.2.2.2.1 (by omega) (by decide)), hG.r3, u_ob, u_ck (ixb_e (n := 24) hG.2.2.2.2.2.1 (by omega) (by decide)), c_warmthAfter, u_cb, ci, (hP i hi).2.2.1, (hP i hi).2.2.2.1, pth_w, u_nn, nI_1]
    exact after_loop hG V hN ha hb hq hP hc d (i + 1) n (by omega) (by omega)
end
