/-! PURE 92: rests. -/
section
variable {G : GG} {own : Nat → Nat} {R X c t U : Nat} {h h0 h1 h2 h' : AH} {w w0 w' w1 w2 w3 : MS} {v v' v0 : VV}
def Mt (X P M : Nat) (h : AH) (w : MS) : Prop := ∀ m j, m < M → j < P → m_i h (X + 58) (3 * m + j) = w.1 72 (3 * m + j)
theorem rows_both (hR : RelO own R h0 X w0) (told : w0.1 1 0 = 1) {r n P : Nat} (hr : r < R) (hP : P < 4) (hPN : P ≤ sN w0.1) (hn : n ≤ 240) (hmi : (w0.1 1 10).toInt + n ≤ 240) : ∀ (d m : Nat) (h : AH) (w : MS), m + d = 3 ^ P → FrQ X R h0 h → WQ w0 w → Mt X P m h w → ∃ h' w', (∀ (v3 : Int32) (K : AH → Option (Int32 × AH)) (N : Nat), d < N → lq1 (F_X11_rests_69 G X (nI r) (nI n) v3 (nI P) (nI (3 ^ P)) K) N (nI m) h = K h') ∧ (∀ N, d < N → lw1 (P_X12_laysRests_3 G (nI r) (nI n) (nI P) (nI (3 ^ P))) N (nI m) w = some w') ∧ FrQ X R h0 h' ∧ WQ w0 w' ∧ Mt X P (3 ^ P) h' w'
  | 0, m, h, w, e, hF, hW, hM => by
    have h27 := p3_le P hP
    refine ⟨h, w, ?_, ?_, hF, hW, by rw [← e]; exact hM⟩
    · intro v3 K N hn
      obtain ⟨N, rfl⟩ : ∃ M, N = M + 1 := ⟨N - 1, by omega⟩
      show F_X11_rests_69 G X (nI r) _ v3 (nI P) (nI (3 ^ P)) K _ _ _ = _
      rw [F_X11_rests_69, if_pos (nI_le (by omega) (by omega))]
    · intro N hn
      obtain ⟨N, rfl⟩ : ∃ M, N = M + 1 := ⟨N - 1, by omega⟩
      show P_X12_laysRests_3 G (nI r) _ (nI P) (nI (3 ^ P)) _ _ _ = _
      rw [P_X12_laysRests_3, if_pos (nI_le (by omega) (by omega))]
  | d + 1, m, h, w, e, hF, hW, hM => by
    have h27 := p3_le P hP
    obtain ⟨law, h1, w1, a1, a2, a3, a4, a5, a6, a7⟩ := row_both (G := G) ((hR.wq hW).frq hF) (r := r) (m := m) (n := n) (P := P) (by rw [pw1 hW.1 (by decide)]; exact told) hr (by omega) hP (by rw [pwN hW.1.p3]; exact hPN) hn (by rw [pw1 hW.1 (by decide)]; exact hmi)
    obtain ⟨h2, w2, b1, b2, b3, b4, b5⟩ := rows_both hR told hr hP hPN hn hmi d (m + 1) h1 w1 (by omega) (hF.tr a4) (hW.tr a5) (fun m' j' q1 q2 => by
      by_cases z : m' = m
      · subst z; exact a7 j' q2
      · obtain ⟨y1, y2⟩ := a6 (3 * m' + j') (by omega)
        rw [y1, y2]; exact hM m' j' (by omega) q2)
    have hX : m_t h X = .inl 11 := (hR.frq hF).1.1.1
    refine ⟨h2, w2, ?_, ?_, b3, b4, b5⟩
    · intro v3 K N hn
      obtain ⟨N, rfl⟩ : ∃ M, N = M + 1 := ⟨N - 1, by omega⟩
      show F_X11_rests_69 G X (nI r) _ v3 (nI P) (nI (3 ^ P)) K _ _ _ = _
      rw [F_X11_rests_69, if_neg (nI_ge (by omega) (by omega)), u_ck hX, a1, u_cb, u_ck hX, a2, u_ob, u_nn, nI_1]
      exact b1 v3 K N (by omega)
    · intro N hn
      obtain ⟨N, rfl⟩ : ∃ M, N = M + 1 := ⟨N - 1, by omega⟩
      show P_X12_laysRests_3 G (nI r) _ (nI P) (nI (3 ^ P)) _ _ _ = _
      rw [a3 _ _ (nI_ge (by omega) (by omega))]
      exact b2 N (by omega)
/-- the row with one's lie changed -/
def oth (P m j k : Nat) : Nat := m - dgt (P - 1 - j) m * 3 ^ (P - 1 - j) + k * 3 ^ (P - 1 - j)
theorem oth_e : ∀ P : Nat, P < 4 → ∀ j : Nat, j < P → ∀ m : Nat, m < 3 ^ P → ∀ k : Nat, k < 3 → nI m - nI (dgt (P - 1 - j) m) * nI (3 ^ (P - 1 - j)) + nI k * nI (3 ^ (P - 1 - j)) = nI (oth P m j k) ∧ nI m - nI (3 ^ (P - 1 - j)) * nI (dgt (P - 1 - j) m) + nI (3 ^ (P - 1 - j)) * nI k = nI (oth P m j k) ∧ oth P m j k < 3 ^ P := by decide +kernel
def qk (A : Nat → Int32) (P m j k : Nat) : Bool := decide (¬ A (3 * m + j) ≤ A (3 * oth P m j k + j))
def qj (A : Nat → Int32) (P m j : Nat) : Bool := (ff (qk A P m j) 3 0).isSome
def isR (A : Nat → Int32) (P m : Nat) : Bool := (ff (qj A P m) P 0).isNone
theorem n3k : ∀ k : Nat, k < 3 → ¬ (3 : Int32) ≤ nI k := by decide
theorem mt_none {α β : Type} {o : Option α} {a b : β} : (match o with | some _ => a | none => b) = if o.isSome = true then a else b := by cases o <;> rfl
theorem c_isResting (hX : m_t h X = .inl 11) (h11 : m_r h X 11 = some (X + 58)) (h58 : m_t h (X + 58) = .inr (.int, 81)) {P m : Nat} (hP : P < 4) (hm : m < 3 ^ P) : f_X11_isResting G X (nI m) (nI P) h = some (if isR (m_i h (X + 58)) P m = true then 1 else 0, h) := by
  have h27 := p3_le P hP
  unfold f_X11_isResting
  rw [show (0 : Int32) = nI 0 from rfl, lq1_ff (N := P) (qj (m_i h (X + 58)) P m) (fun _ => some (0, h)) (some (1, h)) ?_ ?_ ?_ (d := P) (Nat.zero_add _) (bN_gt (by omega))]
  · unfold isR
    cases ff (qj (m_i h (X + 58)) P m) P 0 <;> rfl
  all_goals
    intro self
  · rw [F_X11_isResting_2, if_pos (nI_le (by omega) (by omega))]
  all_goals
    intro j hj hp
    have inner : ∀ K : AH → Option (Int32 × AH), lq1 (F_X11_isResting_33 G X (nI m) (nI P) (nI j) (nI (3 ^ (P - 1 - j))) (nI m - nI (dgt (P - 1 - j) m) * nI (3 ^ (P - 1 - j))) K) bN (nI 0) h = if qj (m_i h (X + 58)) P m j = true then some (0, h) else K h := fun K => by
      rw [lq1_ff (N := 3) (qk (m_i h (X + 58)) P m j) (fun _ => some (0, h)) (K h) ?_ ?_ ?_ (d := 3) (Nat.zero_add _) (bN_gt (by omega))]
      · unfold qj
        cases ff (qk (m_i h (X + 58)) P m j) 3 0 <;> rfl
      all_goals
        intro self2
      · rw [F_X11_isResting_33, if_pos (show (3 : Int32) ≤ nI 3 by decide)]
      all_goals
        intro k hk hp2
        obtain ⟨o1, -, o3⟩ := oth_e P hP j hj m hm k hk
        rw [F_X11_isResting_33, if_neg (n3k k hk), u_nn, o1, u_ck hX, h11, u_ob, (ix3 _ (show oth P m j k < 27 by omega) j (by omega)).1, (ix3 m (by omega) j (by omega)).1, u_ck (ixb_e h58 (by omega) (by decide)), u_ob, u_ck (ixb_e h58 (by omega) (by decide)), nI_clamp (by omega), nI_clamp (by omega)]
        unfold qk at hp2
      · rw [if_neg (of_decide_eq_true hp2)]
      · rw [if_pos (Classical.byContradiction fun z => of_decide_eq_false hp2 z), u_nn]
    rw [F_X11_isResting_2, if_neg (nI_ge (by omega) (by omega)), plc P hP j hj, c_rowsOf (by omega), u_cb, c_digit (by omega) hj hP, u_cb, u_nn, show (0 : Int32) = nI 0 from rfl, inner, hp]
  · rfl
  · rfl
theorem p_isRest {P m : Nat} (hP : P < 4) (hm : m < 3 ^ P) : p_X12_isRest G (nI m) (nI P) w = some (if isR (w.1 72) P m = true then 1 else 0, w) := by
  have h27 := p3_le P hP
  unfold p_X12_isRest
  rw [show (0 : Int32) = nI 0 from rfl, lw1_ff (N := P) (qj (w.1 72) P m) (fun _ => some (0, w)) (some (1, w)) ?_ ?_ ?_ (d := P) (Nat.zero_add _) (bN_gt (by omega))]
  · unfold isR
    cases ff (qj (w.1 72) P m) P 0 <;> rfl
  all_goals
    intro self
  · rw [P_X12_isRest_2, if_pos (nI_le (by omega) (by omega))]
  all_goals
    intro j hj hp
    have inner : ∀ K : MS → Option (Int32 × MS), lw1 (P_X12_isRest_36 G (nI m) (nI P) (nI j) (nI (3 ^ (P - 1 - j))) (nI m - nI (3 ^ (P - 1 - j)) * nI (dgt (P - 1 - j) m)) K) bN (nI 0) w = if qj (w.1 72) P m j = true then some (0, w) else K w := fun K => by
      rw [lw1_ff (N := 3) (qk (w.1 72) P m j) (fun _ => some (0, w)) (K w) ?_ ?_ ?_ (d := 3) (Nat.zero_add _) (bN_gt (by omega))]
      · unfold qj
        cases ff (qk (w.1 72) P m j) 3 0 <;> rfl
      all_goals
        intro self2
      · rw [P_X12_isRest_36, if_pos (show (3 : Int32) ≤ nI 3 by decide)]
      all_goals
        intro k hk hp2
        obtain ⟨-, o2, o3⟩ := oth_e P hP j hj m hm k hk
        rw [P_X12_isRest_36, if_neg (n3k k hk), o2, (ix3 _ (show oth P m j k < 27 by omega) j (by omega)).2, (ix3 m (by omega) j (by omega)).2, u_ck (u_ixn (by omega) (by decide)), u_ck (u_ixn (by omega) (by decide)), nI_clamp (by omega), nI_clamp (by omega)]
        unfold qk at hp2
      · rw [if_neg (of_decide_eq_true hp2)]
      · rw [if_pos (Classical.byContradiction fun z => of_decide_eq_false hp2 z), u_nn]
    rw [P_X12_isRest_2, if_neg (nI_ge (by omega) (by omega)), p_placeOf hj hP, u_cw, p_powerOf (by omega), u_cw, p_placeOf hj hP, u_cw, p_third (by omega) (by omega), u_cw, u_nn, show (0 : Int32) = nI 0 from rfl, inner, hp]
  · rfl
  · rfl
theorem isR_cong {A B : Nat → Int32} {P m : Nat} (hP : P < 4) (hm : m < 3 ^ P) (e : ∀ m j, m < 3 ^ P → j < P → A (3 * m + j) = B (3 * m + j)) : isR A P m = isR B P m := by
  unfold isR
  refine congrArg _ (ff_cong (fun j _ hj => ?_))
  unfold qj
  refine congrArg _ (ff_cong (fun k _ hk => ?_))
  unfold qk
  rw [e m j hm (by omega), e _ j (oth_e P hP j (by omega) m hm k (by omega)).2.2 (by omega)]
end
