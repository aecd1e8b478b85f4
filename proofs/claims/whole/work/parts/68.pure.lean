/-! PURE 68: middle, most, more, less; all that is asked. -/
def cwn (v : VV) (k j : Nat) : Nat := fs (fun q a => if v 10 q = 0 then a else if wantV v q = nI j then a + 1 else a) k 0 0
def nan (v : VV) (k : Nat) : Nat := fs (fun q a => if v 10 q = 0 then a else a + 1) k 0 0
theorem WC_n (v : VV) (k j : Nat) : WC v k j = nI (cwn v k j) := by
  have := fs_rel (R := fun _ (a : Int32) (b : Nat) => a = nI b) (k := 0) (d := k) (f := fun q a => if v 10 q = 0 then a else if wantV v q = nI j then a + 1 else a) (g := fun q a => if v 10 q = 0 then a else if wantV v q = nI j then a + 1 else a) (a := 0) (b := 0) rfl (by
    intro i _ _ x y e
    subst e
    by_cases h1 : v 10 i = 0
    · simp only [h1, if_true]
    · by_cases h2 : wantV v i = nI j
      · simp only [h1, h2, if_true, if_false, nI_1]
      · simp only [h1, h2, if_false])
  exact this
theorem NA_n (v : VV) (k : Nat) : NA v k = nI (nan v k) := by
  have := fs_rel (R := fun _ (a : Int32) (b : Nat) => a = nI b) (k := 0) (d := k) (f := fun q a => if v 10 q = 0 then a else a + 1) (g := fun q a => if v 10 q = 0 then a else a + 1) (a := 0) (b := 0) rfl (by
    intro i _ _ x y e
    subst e
    by_cases h1 : v 10 i = 0
    · simp only [h1, if_true]
    · simp only [h1, if_false, nI_1])
  exact this
theorem nan_s (v : VV) (k : Nat) : nan v (k + 1) = if v 10 k = 0 then nan v k else nan v k + 1 := by
  unfold nan; rw [fs_snoc, Nat.zero_add]
theorem cwn_s (v : VV) (k j : Nat) : cwn v (k + 1) j = if v 10 k = 0 then cwn v k j else if wantV v k = nI j then cwn v k j + 1 else cwn v k j := by
  unfold cwn; rw [fs_snoc, Nat.zero_add]
theorem nan_le (v : VV) : ∀ k, nan v k ≤ k
  | 0 => Nat.le_refl _
  | k + 1 => by rw [nan_s]; have := nan_le v k; split <;> omega
theorem cwn_sum {v : VV} (hS : St v) : ∀ k, k ≤ sN v → cwn v k 0 + cwn v k 1 + cwn v k 2 + cwn v k 3 + cwn v k 4 + cwn v k 5 = nan v k
  | 0, _ => rfl
  | k + 1, hk => by
    have ih := cwn_sum hS k (by omega)
    rw [nan_s, cwn_s, cwn_s, cwn_s, cwn_s, cwn_s, cwn_s]
    by_cases h0 : v 10 k = 0
    · simp only [h0, if_true]; exact ih
    · simp only [h0, if_false]
      obtain ⟨j, hj, e⟩ := want_5 hS (q := k) (by omega)
      rw [e]
      have ne : ∀ a b : Nat, a < 6 → b < 6 → (nI a = nI b) = (a = b) := fun a b h1 h2 => propext (nI_eq (by omega) (by omega))
      simp only [ne j 0 (by omega) (by decide), ne j 1 (by omega) (by decide), ne j 2 (by omega) (by decide), ne j 3 (by omega) (by decide), ne j 4 (by omega) (by decide), ne j 5 (by omega) (by decide)]
      match j, hj with
      | 0, _ => simp; omega
      | 1, _ => simp; omega
      | 2, _ => simp; omega
      | 3, _ => simp; omega
      | 4, _ => simp; omega
      | 5, _ => simp; omega
/-- a sum with one more -/
theorem fs_addc {f : Nat → Int32} : ∀ (d k : Nat) (a b : Int32), fs (fun j a => a + f j) d k (a + b) = fs (fun j a => a + f j) d k a + b
  | 0, _, _, _ => rfl
  | d + 1, k, a, b => by
    show fs _ d (k + 1) (a + b + f k) = fs _ d (k + 1) (a + f k) + b
    rw [← fs_addc, Int32.add_assoc, Int32.add_comm b, ← Int32.add_assoc]
theorem fs_add1 {f g : Nat → Int32} {j0 : Nat} : ∀ {d k : Nat} {a : Int32}, (∀ j, k ≤ j → j < k + d → g j = if j = j0 then f j + 1 else f j) → fs (fun j a => a + g j) d k a = fs (fun j a => a + f j) d k a + if k ≤ j0 ∧ j0 < k + d then 1 else 0
  | 0, k, a, _ => by
    rw [if_neg (by omega), Int32.add_zero]; rfl
  | d + 1, k, a, hg => by
    show fs _ d (k + 1) (a + g k) = fs _ d (k + 1) (a + f k) + _
    rw [fs_add1 (fun j h1 h2 => hg j (by omega) (by omega)), hg k (by omega) (by omega)]
    by_cases h1 : k = j0
    · rw [if_pos h1, ← Int32.add_assoc, fs_addc, if_neg (by omega), if_pos (by omega), Int32.add_zero]
    · rw [if_neg h1]
      by_cases h2 : k + 1 ≤ j0 ∧ j0 < k + 1 + d
      · rw [if_pos h2, if_pos (by omega)]
      · rw [if_neg h2, if_neg (by omega)]
theorem fs_zero {f : Nat → Int32} (hf : ∀ j, f j = 0) : ∀ {d k : Nat} {a : Int32}, fs (fun j a => a + f j) d k a = a
  | 0, _, _ => rfl
  | d + 1, k, a => by
    show fs _ d (k + 1) (a + f k) = a
    rw [hf, Int32.add_zero, fs_zero hf]
theorem MO_e {v : VV} (hS : St v) {hn : Nat} (hh : v 1 13 = nI hn) (h5 : hn ≤ 5) : ∀ k, k ≤ sN v → MO v k = fs (fun j a => a + WC v k j) (5 - hn) (hn + 1) 0
  | 0, _ => (fs_zero (f := WC v 0) (fun _ => rfl)).symm
  | k + 1, hk => by
    have ih := MO_e hS hh h5 k (by omega)
    rw [MO_s]
    by_cases h0 : v 10 k = 0
    · rw [if_pos h0, ih]
      exact fs_cong (fun j _ _ x => by rw [WC_s, if_pos h0])
    · rw [if_neg h0, ih]
      obtain ⟨j0, hj, e⟩ := want_5 hS (q := k) (by omega)
      rw [fs_add1 (f := WC v k) (g := WC v (k + 1)) (j0 := j0) (fun j _ hj6 => ?_), e, hh]
      · congr 1
        by_cases h1 : j0 ≤ hn
        · rw [if_pos (nI_le h1 (by omega)), if_neg (by omega)]
        · rw [if_neg (nI_ge (by omega) (by omega)), if_pos (by omega)]
      · rw [WC_s, if_neg h0, e]
        by_cases h1 : j = j0
        · rw [if_pos h1, if_pos (by rw [h1])]
        · rw [if_neg h1, if_neg (fun e2 => h1 ((nI_eq (by omega) (by omega)).mp e2).symm)]
theorem LE_e {v : VV} (hS : St v) {hn : Nat} (hh : v 1 13 = nI hn) (h5 : hn ≤ 5) : ∀ k, k ≤ sN v → LE v k = fs (fun j a => a + WC v k j) hn 0 0
  | 0, _ => (fs_zero (f := WC v 0) (fun _ => rfl)).symm
  | k + 1, hk => by
    have ih := LE_e hS hh h5 k (by omega)
    rw [LE_s]
    by_cases h0 : v 10 k = 0
    · rw [if_pos h0, ih]
      exact fs_cong (fun j _ _ x => by rw [WC_s, if_pos h0])
    · rw [if_neg h0, ih]
      obtain ⟨j0, hj, e⟩ := want_5 hS (q := k) (by omega)
      rw [fs_add1 (f := WC v k) (g := WC v (k + 1)) (j0 := j0) (fun j _ hj6 => ?_), e, hh]
      · congr 1
        by_cases h1 : hn ≤ j0
        · rw [if_pos (nI_le h1 (by omega)), if_neg (by omega)]
        · rw [if_neg (nI_ge (by omega) (by omega)), if_pos (by omega)]
      · rw [WC_s, if_neg h0, e]
        by_cases h1 : j = j0
        · rw [if_pos h1, if_pos (by rw [h1])]
        · rw [if_neg h1, if_neg (fun e2 => h1 ((nI_eq (by omega) (by omega)).mp e2).symm)]
/-- the middle one, and the one that most want -/
def midF (c : Nat → Nat) (n : Nat) (hl : Int32) : Nat → Nat → Nat → Int32
  | 0, _, _ => hl
  | d + 1, j, P => if n ≤ 2 * (P + c j) ∧ 0 < n then nI j else midF c n hl d (j + 1) (P + c j)
def mosF (c : Nat → Nat) (hl : Int32) (d j : Nat) (a : Nat × Int32) : Nat × Int32 := fs (fun j a => if c j ≤ a.1 then a else (c j, nI j)) d j a
def askV (v : VV) (i : Nat) : Int32 :=
  if i = 0 then v 1 13 else if i = 1 then v 1 11 else if i = 2 then v 1 10 else if i = 3 then (if tunV v (v 1 10) then 1 else 0) else if i = 4 then soonV v (v 1 10) else if i = 5 then WN v (sN v) else if i = 6 then midF (cwn v (sN v)) (nan v (sN v)) (v 1 13) 6 0 0 else if i = 7 then (mosF (cwn v (sN v)) (v 1 13) 6 0 (0, v 1 13)).2 else if i = 8 then MO v (sN v) else if i = 9 then LE v (sN v) else if i = 10 then NA v (sN v) else if i = 11 then CX v (sN v) else v 1 12
/-- a law's cells after it looked around -/
def LV (h : AH) (L : Nat) (v : VV) : Prop := (∀ j, j < 6 → m_i h (L + 3) j = nI (cwn v (sN v) j)) ∧ m_i h L 4 = nI (nan v (sN v)) ∧ m_i h L 5 = WN v (sN v) ∧ m_i h L 6 = CX v (sN v)
section
variable {G : GG} {h : AH} {w : MS} {c t L : Nat} {v : VV}
theorem cwn8 (hS : St v) {j : Nat} (hj : j < 6) : cwn v (sN v) j ≤ nan v (sN v) ∧ nan v (sN v) ≤ 8 := by
  have h1 := cwn_sum hS (sN v) (Nat.le_refl _)
  have h2 := nan_le v (sN v)
  have h3 := st_N8 hS
  refine ⟨?_, by omega⟩
  match j, hj with
  | 0, _ => omega
  | 1, _ => omega
  | 2, _ => omega
  | 3, _ => omega
  | 4, _ => omega
  | 5, _ => omega
theorem c_mid_at (hS : St v) (hL : LaS h L) (hV : LV h L v) (hl : Int32) : ∀ (d j n P : Nat), j + d = 6 → d < n → P + (fs (fun j a => a + cwn v (sN v) j) d j 0) ≤ 8 → lq2 (F_X2_middleWant_4 G L hl) n (nI P) (nI j) h = some (midF (cwn v (sN v)) (nan v (sN v)) hl d j P, h)
  | 0, j, n + 1, P, e, _, _ => by
    show F_X2_middleWant_4 G L hl _ _ _ _ = _
    rw [F_X2_middleWant_4, if_pos (show (6 : Int32) ≤ nI j from nI_le (a := 6) (by omega) (by omega))]; rfl
  | d + 1, j, n + 1, P, e, hn, hP => by
    show F_X2_middleWant_4 G L hl _ _ _ _ = _
    have hsh : ∀ (d k a b : Nat), fs (fun j a => a + cwn v (sN v) j) d k (a + b) = fs (fun j a => a + cwn v (sN v) j) d k a + b := by
      intro d
      induction d with
      | zero => intro k a b; rfl
      | succ d ih => intro k a b; show fs _ d (k + 1) (a + b + _) = fs _ d (k + 1) (a + _) + b; rw [← ih, Nat.add_assoc, Nat.add_comm b, ← Nat.add_assoc]
    have hP2 : P + cwn v (sN v) j + fs (fun j a => a + cwn v (sN v) j) d (j + 1) 0 ≤ 8 := by
      have : fs (fun j a => a + cwn v (sN v) j) (d + 1) j 0 = fs (fun j a => a + cwn v (sN v) j) d (j + 1) 0 + cwn v (sN v) j := by
        show fs _ d (j + 1) (0 + cwn v (sN v) j) = _
        rw [hsh]
      omega
    have h8 := (cwn8 hS (j := j) (by omega)).2
    rw [F_X2_middleWant_4, if_neg (show ¬ (6 : Int32) ≤ nI j from nI_ge (b := 6) (by omega) (by omega)), u_ck hL.1, hL.2.2.2.1, u_ob, u_ck (ixb_e hL.2.2.2.2.2.1 (by omega) (by decide)), u_nn, u_nn, nI_clamp (by omega), hV.1 j (by omega), nI_add, hV.2.1, nI_1]
    have e2 : (2 : Int32) * nI (P + cwn v (sN v) j) = nI (2 * (P + cwn v (sN v) j)) := pk_mul 2 _
    rw [e2]
    dsimp only
    rw [u_nn]
    unfold midF
    by_cases h1 : nan v (sN v) ≤ 2 * (P + cwn v (sN v) j)
    · rw [if_neg (nI_nlt h1 (by omega))]
      by_cases h2 : 0 < nan v (sN v)
      · rw [if_neg (nI_nle h2 (by omega)), if_pos ⟨h1, h2⟩]
      · rw [if_pos (show nI (nan v (sN v)) ≤ 0 from nI_le (b := 0) (by omega) (by decide)), if_neg (fun q => h2 q.2)]
        exact c_mid_at hS hL hV hl d (j + 1) n _ (by omega) (by omega) hP2
    · rw [if_pos (nI_lt (by omega) (by omega)), if_neg (fun q => h1 q.1)]
      exact c_mid_at hS hL hV hl d (j + 1) n _ (by omega) (by omega) hP2
theorem p_mid_at (hS : St v) (hw : ∀ j, j < 6 → w.1 52 j = nI (cwn v (sN v) j)) (K : MS → Option (Int32 × MS)) (hl : Int32) (hK : K w = some (hl, w)) (hn0 : 0 < nan v (sN v)) : ∀ (d j n P : Nat), j + d = 6 → d < n → 2 * P < nan v (sN v) → lw2 (P_X12_middleOf_8 G (nI (nan v (sN v))) K) n (nI ((nan v (sN v) + 1) / 2 - P)) (nI j) w = some (midF (cwn v (sN v)) (nan v (sN v)) hl d j P, w)
  | 0, j, n + 1, P, e, _, _ => by
    show P_X12_middleOf_8 G _ K _ _ _ _ = _
    rw [P_X12_middleOf_8, if_pos (show (6 : Int32) ≤ nI j from nI_le (a := 6) (by omega) (by omega)), hK]; rfl
  | d + 1, j, n + 1, P, e, hn, hP => by
    show P_X12_middleOf_8 G _ K _ _ _ _ = _
    have h8 := cwn8 hS (j := j) (by omega)
    rw [P_X12_middleOf_8, if_neg (show ¬ (6 : Int32) ≤ nI j from nI_ge (b := 6) (by omega) (by omega)), if_neg (nI_nle hn0 (by omega)), u_ck (u_ixn (by omega) (by decide)), u_nn, nI_clamp (by omega), hw j (by omega)]
    unfold midF
    have hi : (nI ((nan v (sN v) + 1) / 2 - P) - nI (cwn v (sN v) j)).toInt = (((nan v (sN v) + 1) / 2 - P : Nat) : Int) - (cwn v (sN v) j : Int) := pk_sub_toInt (by omega) (by omega)
    have i0 : (0 : Int32).toInt = 0 := rfl
    by_cases h1 : nan v (sN v) ≤ 2 * (P + cwn v (sN v) j)
    · have hx : ¬ (0 : Int32) < nI ((nan v (sN v) + 1) / 2 - P) - nI (cwn v (sN v) j) := by rw [I_lt, hi, i0]; omega
      rw [if_neg hx, if_pos ⟨h1, hn0⟩]
    · have hx : (0 : Int32) < nI ((nan v (sN v) + 1) / 2 - P) - nI (cwn v (sN v) j) := by rw [I_lt, hi, i0]; omega
      rw [if_pos hx, if_neg (fun q => h1 q.1), pk_sub (a := (nan v (sN v) + 1) / 2 - P) (b := cwn v (sN v) j) (by omega), u_nn, nI_1, show (nan v (sN v) + 1) / 2 - P - cwn v (sN v) j = (nan v (sN v) + 1) / 2 - (P + cwn v (sN v) j) by omega]
      exact p_mid_at hS hw K hl hK hn0 d (j + 1) n _ (by omega) (by omega) (by omega)
theorem c_middleWant (hS : St v) (hL : LaS h L) (hV : LV h L v) (hl : Int32) : f_X2_middleWant G L hl h = some (midF (cwn v (sN v)) (nan v (sN v)) hl 6 0 0, h) := by
  unfold f_X2_middleWant
  have h1 := cwn_sum hS (sN v) (Nat.le_refl _)
  have h2 := (cwn8 hS (j := 0) (by decide)).2
  have := c_mid_at (G := G) hS hL hV hl 6 0 bN 0 rfl (bN_gt (by decide)) (by
    show 0 + (0 + cwn v (sN v) 0 + cwn v (sN v) 1 + cwn v (sN v) 2 + cwn v (sN v) 3 + cwn v (sN v) 4 + cwn v (sN v) 5) ≤ 8
    omega)
  rw [nI_0] at this
  exact this
theorem mid0 (c : Nat → Nat) (hl : Int32) : ∀ (d j P : Nat), midF c 0 hl d j P = hl
  | 0, _, _ => rfl
  | d + 1, j, P => by
    unfold midF; rw [if_neg (by omega)]; exact mid0 c hl d _ _
theorem p_middleOf (hS : St v) (hw : ∀ j, j < 6 → w.1 52 j = nI (cwn v (sN v) j)) : p_X12_middleOf G (nI (nan v (sN v))) w = some (midF (cwn v (sN v)) (nan v (sN v)) (w.1 1 13) 6 0 0, w) := by
  have h2 := (cwn8 hS (j := 0) (by decide)).2
  unfold p_X12_middleOf
  have e2 : (nI (nan v (sN v)) + 1) / (2 : Int32) = nI ((nan v (sN v) + 1) / 2 - 0) := by
    rw [nI_1]; exact pk_div (d := 2) (by omega) (by decide) (by decide)
  rw [u_nn, e2]
  by_cases h0 : 0 < nan v (sN v)
  · have := p_mid_at (G := G) hS hw (fun (h_39 : MS) => (ck (ixn 17 (13 : Int32) = true) <| some (h_39.1 1 (13 : Int32).toNatClampNeg, h_39))) (w.1 1 13) (by rw [u_ck ix_17_13, tn_13]) h0 6 0 bN 0 rfl (bN_gt (by decide)) (by omega)
    rw [nI_0] at this
    exact this
  · have h00 : nan v (sN v) = 0 := by omega
    have : ∀ n : Nat, 0 < n → lw2 (P_X12_middleOf_8 G (nI (nan v (sN v))) (fun (h_39 : MS) => (ck (ixn 17 (13 : Int32) = true) <| some (h_39.1 1 (13 : Int32).toNatClampNeg, h_39)))) n (nI ((nan v (sN v) + 1) / 2 - 0)) 0 w = some (w.1 1 13, w) := by
      intro n hn
      obtain ⟨m, rfl⟩ : ∃ m, n = m + 1 := ⟨n - 1, by omega⟩
      show P_X12_middleOf_8 G _ _ _ _ _ _ = _
      rw [P_X12_middleOf_8, if_neg (by decide), h00, if_pos (by decide), u_ck ix_17_13, tn_13]
    rw [this bN (bN_gt (by decide)), h00, mid0]
theorem c_commonestWant (hS : St v) (hL : LaS h L) (hV : LV h L v) (hl : Int32) : f_X2_commonestWant G L hl h = some ((mosF (cwn v (sN v)) hl 6 0 (0, hl)).2, h) := by
  have key : ∀ (d j n : Nat) (a : Nat × Int32), j + d = 6 → d < n → a.1 ≤ 8 → lq3 (F_X2_commonestWant_7 G L) n (nI a.1) a.2 (nI j) h = some ((mosF (cwn v (sN v)) hl d j a).2, h) := by
    intro d
    induction d with
    | zero =>
      intro j n a e hn _
      obtain ⟨n, rfl⟩ : ∃ m, n = m + 1 := ⟨n - 1, by omega⟩
      show F_X2_commonestWant_7 G L _ _ _ _ _ = _
      rw [F_X2_commonestWant_7, if_pos (show (6 : Int32) ≤ nI j from nI_le (a := 6) (by omega) (by omega))]; rfl
    | succ d ih =>
      intro j n a e hn ha
      obtain ⟨n, rfl⟩ : ∃ m, n = m + 1 := ⟨n - 1, by omega⟩
      have h8 := cwn8 hS (j := j) (by omega)
      show F_X2_commonestWant_7 G L _ _ _ _ _ = _
      rw [F_X2_commonestWant_7, if_neg (show ¬ (6 : Int32) ≤ nI j from nI_ge (b := 6) (by omega) (by omega)), u_ck hL.1, hL.2.2.2.1, u_ob, u_ck (ixb_e hL.2.2.2.2.2.1 (by omega) (by decide)), u_nn, nI_clamp (by omega), hV.1 j (by omega), nI_1]
      dsimp only
      show _ = some ((mosF (cwn v (sN v)) hl d (j + 1) (if cwn v (sN v) j ≤ a.1 then a else (cwn v (sN v) j, nI j))).2, h)
      by_cases h1 : cwn v (sN v) j ≤ a.1
      · rw [if_pos (nI_le h1 (by omega)), if_pos h1]
        exact ih (j + 1) n a (by omega) (by omega) ha
      · rw [if_neg (nI_ge (by omega) (by omega)), u_ob, u_ck (ixb_e hL.2.2.2.2.2.1 (by omega) (by decide)), u_nn, if_neg h1, hV.1 j (by omega)]
        exact ih (j + 1) n (cwn v (sN v) j, nI j) (by omega) (by omega) (by show cwn v (sN v) j ≤ 8; omega)
  unfold f_X2_commonestWant
  have := key 6 0 bN (0, hl) rfl (bN_gt (by decide)) (Nat.zero_le 8)
  rw [nI_0] at this
  exact this
theorem p_mostWanted (hS : St v) (hw : ∀ j, j < 6 → w.1 52 j = nI (cwn v (sN v) j)) : p_X12_mostWanted G (nI (nan v (sN v))) w = some ((mosF (cwn v (sN v)) (w.1 1 13) 6 0 (0, w.1 1 13)).2, w) := by
  have key : ∀ (K : Int32 → MS → Option (Int32 × MS)) (d j n b : Nat) (a : Nat × Int32), j + d = 6 → d < n → 0 < j → b < j → a.1 = cwn v (sN v) b → (cwn v (sN v) b = 0 → a.2 = w.1 1 13) → (cwn v (sN v) b ≠ 0 → a.2 = nI b) → (∀ i, i < j → cwn v (sN v) i ≤ cwn v (sN v) b) → ∃ b2, b2 < 6 ∧ lw2 (P_X12_mostWanted_4 G (nI (nan v (sN v))) K) n (nI b) (nI j) w = K (nI b2) w ∧ (cwn v (sN v) b2 = 0 → (mosF (cwn v (sN v)) (w.1 1 13) d j a).2 = w.1 1 13) ∧ (cwn v (sN v) b2 ≠ 0 → (mosF (cwn v (sN v)) (w.1 1 13) d j a).2 = nI b2) ∧ (∀ i, i < 6 → cwn v (sN v) i ≤ cwn v (sN v) b2) := by
    intro K d
    induction d with
    | zero =>
      intro j n b a e hn h1 h2 h3 h4 h5 h6
      obtain ⟨n, rfl⟩ : ∃ m, n = m + 1 := ⟨n - 1, by omega⟩
      refine ⟨b, by omega, ?_, h4, h5, fun i hi => h6 i (by omega)⟩
      show P_X12_mostWanted_4 G _ K _ _ _ _ = _
      rw [P_X12_mostWanted_4, if_pos (show (6 : Int32) ≤ nI j from nI_le (a := 6) (by omega) (by omega))]
    | succ d ih =>
      intro j n b a e hn h1 h2 h3 h4 h5 h6
      obtain ⟨n, rfl⟩ : ∃ m, n = m + 1 := ⟨n - 1, by omega⟩
      have h8 := cwn8 hS (j := j) (by omega)
      have h8b := cwn8 hS (j := b) (by omega)
      have un : P_X12_mostWanted_4 G (nI (nan v (sN v))) K (lw2 (P_X12_mostWanted_4 G (nI (nan v (sN v))) K) n) (nI b) (nI j) w = if cwn v (sN v) j ≤ cwn v (sN v) b then lw2 (P_X12_mostWanted_4 G (nI (nan v (sN v))) K) n (nI b) (nI (j + 1)) w else lw2 (P_X12_mostWanted_4 G (nI (nan v (sN v))) K) n (nI j) (nI (j + 1)) w := by
        rw [P_X12_mostWanted_4, if_neg (show ¬ (6 : Int32) ≤ nI j from nI_ge (b := 6) (by omega) (by omega)), u_ck (u_ixn (by omega) (by decide)), u_ck (u_ixn (by omega) (by decide)), u_nn, nI_clamp (by omega), nI_clamp (by omega), hw j (by omega), hw b (by omega), nI_1]
        dsimp only
        by_cases c1 : cwn v (sN v) j ≤ cwn v (sN v) b
        · rw [if_pos (nI_le c1 (by omega)), if_pos c1, u_nn]
        · rw [if_neg (nI_ge (by omega) (by omega)), if_neg c1, u_nn]
      show ∃ b2, b2 < 6 ∧ P_X12_mostWanted_4 G (nI (nan v (sN v))) K (lw2 (P_X12_mostWanted_4 G (nI (nan v (sN v))) K) n) (nI b) (nI j) w = K (nI b2) w ∧ (cwn v (sN v) b2 = 0 → (mosF (cwn v (sN v)) (w.1 1 13) d (j + 1) (if cwn v (sN v) j ≤ a.1 then a else (cwn v (sN v) j, nI j))).2 = w.1 1 13) ∧ (cwn v (sN v) b2 ≠ 0 → (mosF (cwn v (sN v)) (w.1 1 13) d (j + 1) (if cwn v (sN v) j ≤ a.1 then a else (cwn v (sN v) j, nI j))).2 = nI b2) ∧ _
      rw [un, h3]
      by_cases c1 : cwn v (sN v) j ≤ cwn v (sN v) b
      · rw [if_pos c1, if_pos c1]
        exact ih (j + 1) n b a (by omega) (by omega) (by omega) (by omega) h3 h4 h5 (fun i hi => by
          by_cases ei : i = j
          · rw [ei]; exact c1
          · exact h6 i (by omega))
      · rw [if_neg c1, if_neg c1]
        exact ih (j + 1) n j (cwn v (sN v) j, nI j) (by omega) (by omega) (by omega) (by omega) rfl (fun e0 => by omega) (fun _ => rfl) (fun i hi => by
          by_cases ei : i = j
          · rw [ei]; exact Nat.le_refl _
          · have := h6 i (by omega); omega)
  have h1 := cwn_sum hS (sN v) (Nat.le_refl _)
  have h2 := (cwn8 hS (j := 0) (by decide)).2
  unfold p_X12_mostWanted
  obtain ⟨b2, hb, g1, g2, g3, g4⟩ := key (fun (v2_37 : Int32) (h_37 : MS) => (if nI (nan v (sN v)) = 0 then (ck (ixn 17 (13 : Int32) = true) <| some (h_37.1 1 (13 : Int32).toNatClampNeg, h_37)) else some (v2_37, h_37))) 5 1 bN 0 (if cwn v (sN v) 0 ≤ 0 then (0, w.1 1 13) else (cwn v (sN v) 0, nI 0)) rfl (bN_gt (by decide)) (by decide) (by decide) (by split <;> simp <;> omega) (fun e => by rw [if_pos (by omega)]) (fun e => by rw [if_neg (by omega)]) (fun i hi => by rw [show i = 0 by omega]; exact Nat.le_refl _)
  rw [nI_0] at g1
  refine (show _ = lw2 (P_X12_mostWanted_4 G (nI (nan v (sN v))) _) bN 0 (nI 1) w from rfl).trans (g1.trans ?_)
  have em : mosF (cwn v (sN v)) (w.1 1 13) 6 0 (0, w.1 1 13) = mosF (cwn v (sN v)) (w.1 1 13) 5 1 (if cwn v (sN v) 0 ≤ 0 then (0, w.1 1 13) else (cwn v (sN v) 0, nI 0)) := rfl
  rw [em]
  by_cases h0 : nan v (sN v) = 0
  · have c0 : cwn v (sN v) b2 = 0 := by have := (cwn8 hS hb).1; omega
    rw [g2 c0, h0, if_pos (by decide), u_ck ix_17_13, tn_13]
  · have c0 : cwn v (sN v) b2 ≠ 0 := by
      intro e
      have := g4 0 (by decide); have := g4 1 (by decide); have := g4 2 (by decide); have := g4 3 (by decide); have := g4 4 (by decide); have := g4 5 (by decide)
      omega
    rw [g3 c0, if_neg (nI_ne0 (by omega) (by omega))]
theorem c_within (hL : LaS h L) (to : Int32) (tn : Nat) (ht : to = nI tn) (ht6 : tn ≤ 6) : ∀ (d j n : Nat) (a : Int32), j + d = tn → d < n → lq2 (F_X2_wantsWithin_9 G L to) n a (nI j) h = some (fs (fun j a => a + m_i h (L + 3) j) d j a, h)
  | 0, j, n + 1, a, e, _ => by
    show F_X2_wantsWithin_9 G L to _ _ _ _ = _
    rw [F_X2_wantsWithin_9, ht, if_pos (nI_le (by omega) (by omega))]; rfl
  | d + 1, j, n + 1, a, e, hn => by
    show F_X2_wantsWithin_9 G L to _ _ _ _ = _
    rw [F_X2_wantsWithin_9, if_neg (by rw [ht]; exact nI_ge (by omega) (by omega)), if_neg (show ¬ (6 : Int32) ≤ nI j from nI_ge (b := 6) (by omega) (by omega)), u_ck hL.1, hL.2.2.2.1, u_ob, u_ck (ixb_e hL.2.2.2.2.2.1 (by omega) (by decide)), u_nn, u_nn, nI_clamp (by omega), nI_1]
    exact c_within hL to tn ht ht6 d (j + 1) n _ (by omega) (by omega)
end
