/-! PURE 98r: plan: the least from a mile on. -/
section
variable {G : GG} {own : Nat → Nat} {R X c t U : Nat} {h h1 h2 h' : AH} {w w' w1 w2 w3 x x1 x2 x' : MS} {v v' : VV}
/-- the first best of the holes beside, by what each costs -/
def bst (f : Nat → Int32) (b : Nat) : Nat :=
  if b = 0 then (if f 1 < f 0 then 1 else 0)
  else if b = 5 then (if f 5 < f 4 then 5 else 4)
  else if f b < f (b - 1) then (if f (b + 1) < f b then b + 1 else b) else (if f (b + 1) < f (b - 1) then b + 1 else b - 1)
theorem bst_le (f : Nat → Int32) {b : Nat} (hb : b < 6) : bst f b < 6 := by
  unfold bst
  split
  · split <;> omega
  · split
    · split <;> omega
    · split <;> split <;> omega
/-- what a hole costs at the i-th mile from the end of N; the least -/
def cstF (V : Nat → VV) (i : Nat) (L : Nat → Nat → Int32) (a b : Nat) : Int32 := wpP (V i) (nI a) (sN (V i)) + hpP (V i) (nI b) (sN (V i)) + L (warmI (nI a) (kv (V i) (sL (V i))) (nI b) (coldV (V i) ((V i) 1 10))).toNatClampNeg b
def lsF (V : Nat → VV) (N : Nat) : Nat → Nat → Nat → Int32
  | 0, _, _ => 0
  | d + 1, a, b => cstF V (N - (d + 1)) (lsF V N d) a (bst (cstF V (N - (d + 1)) (lsF V N d) a) b)
def csN (V : Nat → VV) (N i a b : Nat) : Int32 := cstF V i (lsF V N (N - (i + 1))) a b
def lsN (V : Nat → VV) (N i a b : Nat) : Int32 := lsF V N (N - i) a b
theorem lsN_N (V : Nat → VV) (N a b : Nat) : lsN V N N a b = 0 := by unfold lsN; rw [Nat.sub_self]; rfl
theorem lsN_i (V : Nat → VV) {N i : Nat} (hi : i < N) (a b : Nat) : lsN V N i a b = csN V N i a (bst (csN V N i a) b) := by
  unfold lsN csN
  obtain ⟨d, hd⟩ : ∃ d, N - i = d + 1 := ⟨N - i - 1, by omega⟩
  rw [hd]
  show cstF V (N - (d + 1)) (lsF V N d) a (bst (cstF V (N - (d + 1)) (lsF V N d) a) b) = _
  rw [show N - (d + 1) = i by omega, show N - (i + 1) = d by omega]
theorem csN_e (V : Nat → VV) (N i a b : Nat) : csN V N i a b = wpP (V i) (nI a) (sN (V i)) + hpP (V i) (nI b) (sN (V i)) + lsN V N (i + 1) (warmI (nI a) (kv (V i) (sL (V i))) (nI b) (coldV (V i) ((V i) 1 10))).toNatClampNeg b := rfl
theorem warm_n (a k b d : Int32) : ∃ y : Nat, y ≤ 60 ∧ warmI a k b d = nI y := bd_nI (b := 60) (warm_bd a k b d)
/-- the class's first best of a row -/
theorem c_best (hG : GP h X) {f : Nat → Int32} (hf : ∀ b, b < 6 → m_i h (X + 50) b = f b) {b : Nat} (hb : b < 6) : f_X4_firstBestBeside G (X + 44) (nI b) h = some (nI (bst f b), h) := by
  have t1 : m_t h (X + 44) = .inl 4 := hG.1
  have r5 : m_r h (X + 44) 5 = some (X + 50) := hG.r5
  have x6 : ∀ y, y < 6 → ixb h (X + 50) .int (nI y) = true := fun y hy => ixb_e (n := 6) hG.2.2.2.2.2.2.2.1 hy (by decide)
  have go : ∀ n p q, p < 6 → q < 6 → q ≤ b + 1 → lq2 (F_X4_firstBestBeside_12 G (X + 44) (nI b)) (n + 1) (nI p) (nI q) h = (if f q < f p then lq2 (F_X4_firstBestBeside_12 G (X + 44) (nI b)) n (nI q) (nI (q + 1)) h else lq2 (F_X4_firstBestBeside_12 G (X + 44) (nI b)) n (nI p) (nI (q + 1)) h) := fun n p q hp hq hqb => by
    show F_X4_firstBestBeside_12 G (X + 44) (nI b) _ _ _ _ = _
    rw [F_X4_firstBestBeside_12, nI_1, if_neg (nI_nlt (by omega) (by omega)), if_neg (show ¬ (6 : Int32) ≤ nI q from nI_ge (b := 6) (by omega) (by omega)), u_ck t1, r5, u_ob, u_ck (x6 q hq), u_ob, u_ck (x6 p hp), u_nn, nI_clamp (by omega), nI_clamp (by omega), hf q hq, hf p hp, nI_1]; dsimp only; rw [u_nn, u_nn, if_nlt]
  have st : ∀ n p q, p < 6 → q < 8 → (b + 1 < q ∨ 6 ≤ q) → lq2 (F_X4_firstBestBeside_12 G (X + 44) (nI b)) (n + 1) (nI p) (nI q) h = some (nI p, h) := fun n p q hp hq hqb => by
    show F_X4_firstBestBeside_12 G (X + 44) (nI b) _ _ _ _ = _
    rw [F_X4_firstBestBeside_12, nI_1]
    by_cases z : b + 1 < q
    · rw [if_pos (nI_lt z (by omega))]
    · rw [if_neg (nI_nlt (by omega) (by omega)), if_pos (show (6 : Int32) ≤ nI q from nI_le (a := 6) (by omega) (by omega))]
  unfold f_X4_firstBestBeside
  have e0 : (if (0 : Int32) < nI b - 1 then nI b - 1 else 0) = nI (b - 1) := by
    cases b with
    | zero => rfl
    | succ b =>
      rw [nI_pred]
      by_cases z : b = 0
      · subst z; rfl
      · rw [if_pos (show (0 : Int32) < nI b from nI_lt (a := 0) (by omega) (by omega))]; rfl
  rw [u_nn, u_nn, e0, u_nn, nI_1]
  have key : ∀ n, 2 < n → lq2 (F_X4_firstBestBeside_12 G (X + 44) (nI b)) n (nI (b - 1)) (nI (b - 1 + 1)) h = some (nI (bst f b), h) := fun n hn => by
    obtain ⟨n, rfl⟩ : ∃ m, n = m + 3 := ⟨n - 3, by omega⟩
    rw [go _ _ _ (by omega) (by omega) (by omega)]
    unfold bst
    by_cases b0 : b = 0
    · subst b0
      rw [if_pos rfl]
      by_cases z : f (0 - 1 + 1) < f (0 - 1)
      · rw [if_pos z, st _ _ _ (by omega) (by omega) (by omega), if_pos (show f 1 < f 0 from z)]
      · rw [if_neg z, st _ _ _ (by omega) (by omega) (by omega), if_neg (show ¬ f 1 < f 0 from z)]
    · rw [if_neg b0]
      have eb : b - 1 + 1 = b := by omega
      rw [eb]
      by_cases b5 : b = 5
      · subst b5
        rw [if_pos rfl]
        by_cases z : f 5 < f (5 - 1)
        · rw [if_pos z, st _ _ _ (by omega) (by omega) (by omega), if_pos (show f 5 < f 4 from z)]
        · rw [if_neg z, st _ _ _ (by omega) (by omega) (by omega), if_neg (show ¬ f 5 < f 4 from z)]
      · rw [if_neg b5]
        by_cases z : f b < f (b - 1)
        · rw [if_pos z, if_pos z, go _ _ _ (by omega) (by omega) (by omega)]
          by_cases y : f (b + 1) < f b
          · rw [if_pos y, if_pos y, st _ _ _ (by omega) (by omega) (by omega)]
          · rw [if_neg y, if_neg y, st _ _ _ (by omega) (by omega) (by omega)]
        · rw [if_neg z, if_neg z, go _ _ _ (by omega) (by omega) (by omega)]
          by_cases y : f (b + 1) < f (b - 1)
          · rw [if_pos y, if_pos y, st _ _ _ (by omega) (by omega) (by omega)]
          · rw [if_neg y, if_neg y, st _ _ _ (by omega) (by omega) (by omega)]
  exact key bN (bN_gt (by decide))
/-- while a mile is solved: through (X+50), choices (X+51), least (X+52), later (X+53) -/
def SSl (X a : Nat) : Prop := X + 50 ≤ a ∧ a < X + 54
theorem thr_loop (hG : GP h X) (V : Nat → VV) (N : Nat) {i a : Nat} (hi : i < 24) (ha : a < 61) (hS : St (V i)) (hP : PlC X h (V i) i) (hL : ∀ y b, y < 61 → b < 6 → m_i h (X + 53) (6 * y + b) = lsN V N (i + 1) y b) : ∀ (d q n : Nat) (h' : AH), q + d = 6 → d < n → Fr (fun r => r = X + 50) h h' → (∀ b, b < q → m_i h' (X + 50) b = csN V N i a b) → ∃ h2, Fr (fun r => r = X + 50) h h2 ∧ (∀ b, b < 6 → m_i h2 (X + 50) b = csN V N i a b) ∧ ∀ K, lq1 (F_X4_solveAt_25 G (X + 44) (nI i) (nI a) (byW (V i) (nI a) (sN (V i))) K) n (nI q) h' = K h2
  | 0, q, n + 1, h', e, _, hF, hb => by
    refine ⟨h', hF, fun b h1 => hb b (by omega), fun K => ?_⟩
    show F_X4_solveAt_25 G (X + 44) (nI i) (nI a) _ K _ _ _ = _
    rw [F_X4_solveAt_25, if_pos (show (6 : Int32) ≤ nI q from nI_le (a := 6) (by omega) (by omega))]
  | d + 1, q, n + 1, h', e, hn, hF, hb => by
    have hG' := hG.fr hF
    have ei : ∀ r, r ≠ X + 50 → m_i h' r = m_i h r := fun r hr => (hF.2.2.2 r hr).1
    obtain ⟨y, hy, ey⟩ := warm_n (nI a) (kv (V i) (sL (V i))) (nI q) (coldV (V i) ((V i) 1 10))
    have ec : byW (V i) (nI a) (sN (V i)) + ((sbV (V i) (nI q)).1 - byW (V i) ((V i) 1 11) (sN (V i))) + lsN V N (i + 1) y q = csN V N i a q := by
      rw [csN_e, ey, nI_clamp (by omega), ← part_e hS (nI a) (nI q) (sN (V i)) (Nat.le_refl _)]; rfl
    obtain ⟨h2, c1, c2, c3⟩ := thr_loop hG V N hi ha hS hP hL d (q + 1) n (m_si h' (X + 50) q (csN V N i a q)) (by omega) (by omega) (hF.tr Fr.s1) (fun b h1 => by
      by_cases z : b = q
      · subst z; rw [m_i_ss]
      · rw [m_i_sj z]; exact hb b (by omega))
    refine ⟨h2, c1, c2, fun K => ?_⟩
    have ci : (nI i).toNatClampNeg = i := nI_clamp (by omega)
    show F_X4_solveAt_25 G (X + 44) (nI i) (nI a) _ K _ _ _ = _
    rw [F_X4_solveAt_25, if_neg (show ¬ (6 : Int32) ≤ nI q from nI_ge (b := 6) (by omega) (by omega)), u_ck hG'.1, hG'.r8, u_ob, hG'.r2, u_ob, u_ck (ixb_e (n := 24) hG'.2.2.2.2.1 hi (by decide)), hG'.r3, u_ob, u_ck (ixb_e (n := 24) hG'.2.2.2.2.2.1 hi (by decide)), c_warmthAfter, u_cb, ci, ei (X + 47) (by omega), ei (X + 48) (by omega), hP.2.2.1, hP.2.2.2.1, ey, i6, u_ck (ixb_e (n := 366) hG'.2.2.2.2.2.2.2.2.2.2 (by omega) (by decide)), u_nn, nI_clamp (show 6 * y + q < 2 ^ 31 by omega), ei (X + 53) (by omega), hL y q (by omega) (by omega), u_ck hG'.1, hG'.r5, u_ob, hG'.r4, u_ob, i6, u_ck (ixb_e (n := 144) hG'.2.2.2.2.2.2.1 (by omega) (by decide)), u_ck (ixb_e (n := 6) hG'.2.2.2.2.2.2.2.1 (by omega) (by decide)), u_nn, nI_clamp (show q < 2 ^ 31 by omega), nI_clamp (show 6 * i + q < 2 ^ 31 by omega), ei (X + 49) (by omega), hP.2.2.2.2 q (by omega), ec, u_nn, nI_1]
    exact c3 K
end
