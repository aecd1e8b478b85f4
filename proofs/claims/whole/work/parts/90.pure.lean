/-! PURE 90: rests: rows. -/
section
variable {G : GG} {own : Nat → Nat} {R X c t U : Nat} {h h0 h1 h2 h' : AH} {w w0 w' w1 w2 w3 : MS} {v v' v0 : VV}
def dgt : Nat → Nat → Nat
  | 0, m => m % 3
  | d + 1, m => dgt d (m / 3)
theorem dgt_lt : ∀ d m, dgt d m < 3
  | 0, m => Nat.mod_lt _ (by decide)
  | d + 1, m => dgt_lt d (m / 3)
theorem t3 : ∀ m : Nat, m < 27 → nI m / 3 = nI (m / 3) ∧ nI m - nI m / 3 * 3 = nI (m % 3) := by decide
theorem mul3 : ∀ m : Nat, m < 27 → nI m * 3 = nI (m * 3) := by decide
theorem pr3 : ∀ k : Nat, k < 4 → nI (k + 1) + (-1) = nI k ∧ nI (k + 1) - 1 = nI k := by decide
theorem plc : ∀ P : Nat, P < 4 → ∀ j : Nat, j < P → nI P - 1 - nI j = nI (P - 1 - j) := by decide
theorem lie3 : ∀ r : Nat, r < 3 → (nI r - 1) * 4 = 4 * nI r - 4 ∧ -9 ≤ (4 * nI r - 4).toInt ∧ (4 * nI r - 4).toInt ≤ 9 := by decide
theorem ix3 : ∀ m : Nat, m < 27 → ∀ j : Nat, j < 3 → nI m * 3 + nI j = nI (3 * m + j) ∧ 3 * nI m + nI j = nI (3 * m + j) := by decide
theorem c_dig_at {j : Nat} : ∀ (d m n : Nat), m < 27 → j + d < 4 → d < n → lq2 (F_X11_digitInRow_7 G (nI j)) n (nI m) (nI (j + d)) h = some (nI (dgt d m), h)
  | 0, m, n + 1, hm, hj, _ => by
    show F_X11_digitInRow_7 G (nI j) _ _ _ _ = _
    rw [F_X11_digitInRow_7, if_pos (nI_le (by omega) (by omega)), (t3 m hm).2]; rfl
  | d + 1, m, n + 1, hm, hj, hn => by
    show F_X11_digitInRow_7 G (nI j) _ _ _ _ = _
    rw [F_X11_digitInRow_7, if_neg (nI_ge (by omega) (by omega)), u_nn, u_nn, (t3 m hm).1, show j + (d + 1) = j + d + 1 from rfl, (pr3 (j + d) (by omega)).1]
    exact c_dig_at d (m / 3) n (by omega) (by omega) (by omega)
theorem c_digit {m j P : Nat} (hm : m < 27) (hj : j < P) (hP : P < 4) : f_X11_digitInRow G (nI m) (nI j) (nI P) h = some (nI (dgt (P - 1 - j) m), h) := by
  unfold f_X11_digitInRow
  obtain ⟨p, rfl⟩ : ∃ p, P = p + 1 := ⟨P - 1, by omega⟩
  rw [u_nn, (pr3 p (by omega)).2]
  have := c_dig_at (G := G) (h := h) (j := j) (p - j) m bN hm (by omega) (bN_gt (by omega))
  rw [show j + (p - j) = p by omega] at this
  exact this
theorem p_third_at {D : Nat} (hD : D < 4) : ∀ (d k m n : Nat), m < 27 → k + d = D → d < n → lw2 (P_X12_third_4 G (nI D)) n (nI m) (nI k) w = some (nI (dgt d m), w)
  | 0, k, m, n + 1, hm, hj, _ => by
    show P_X12_third_4 G (nI D) _ _ _ _ = _
    rw [P_X12_third_4, if_pos (nI_le (by omega) (by omega)), (t3 m hm).2]; rfl
  | d + 1, k, m, n + 1, hm, hj, hn => by
    show P_X12_third_4 G (nI D) _ _ _ _ = _
    rw [P_X12_third_4, if_neg (nI_ge (by omega) (by omega)), u_nn, u_nn, (t3 m hm).1, nI_1]
    exact p_third_at hD d (k + 1) (m / 3) n (by omega) (by omega) (by omega)
theorem p_third {m d : Nat} (hm : m < 27) (hd : d < 4) : p_X12_third G (nI m) (nI d) w = some (nI (dgt d m), w) := by
  unfold p_X12_third
  have := p_third_at (G := G) (w := w) hd d 0 m bN hm (Nat.zero_add _) (bN_gt (by omega))
  rw [nI_0] at this; exact this
theorem c_rows_at {D : Nat} (hD : D < 4) : ∀ (d k a n : Nat), a * 3 ^ d ≤ 27 → k + d = D → d < n → lq2 (F_X11_rowsOf_4 G (nI D)) n (nI a) (nI k) h = some (nI (a * 3 ^ d), h)
  | 0, k, a, n + 1, hm, hj, _ => by
    show F_X11_rowsOf_4 G (nI D) _ _ _ _ = _
    rw [F_X11_rowsOf_4, if_pos (nI_le (by omega) (by omega))]
    rw [Nat.pow_zero, Nat.mul_one]
  | d + 1, k, a, n + 1, hm, hj, hn => by
    show F_X11_rowsOf_4 G (nI D) _ _ _ _ = _
    have hp : 0 < 3 ^ d := Nat.pow_pos (by decide)
    have ha : a < 27 := by
      rw [Nat.pow_succ, Nat.mul_comm (3 ^ d) 3, ← Nat.mul_assoc] at hm
      have := Nat.le_mul_of_pos_right (a * 3) hp
      omega
    rw [F_X11_rowsOf_4, if_neg (nI_ge (by omega) (by omega)), u_nn, u_nn, mul3 a ha, nI_1, c_rows_at hD d (k + 1) (a * 3) n (by rw [Nat.mul_assoc, Nat.mul_comm 3, ← Nat.pow_succ]; exact hm) (by omega) (by omega), Nat.mul_assoc, Nat.mul_comm 3, ← Nat.pow_succ]
theorem p3_le : ∀ d : Nat, d < 4 → 3 ^ d ≤ 27 := by decide
theorem c_rowsOf {d : Nat} (hd : d < 4) : f_X11_rowsOf G (nI d) h = some (nI (3 ^ d), h) := by
  unfold f_X11_rowsOf
  have := c_rows_at (G := G) (h := h) hd d 0 1 bN (by rw [Nat.one_mul]; exact p3_le d hd) (Nat.zero_add _) (bN_gt (by omega))
  rw [nI_0, Nat.one_mul] at this; exact this
theorem p_pow_at {D : Nat} (hD : D < 4) : ∀ (d k a n : Nat), a * 3 ^ d ≤ 27 → k + d = D → d < n → lw2 (P_X12_powerOf_4 G (nI D)) n (nI a) (nI k) w = some (nI (a * 3 ^ d), w)
  | 0, k, a, n + 1, hm, hj, _ => by
    show P_X12_powerOf_4 G (nI D) _ _ _ _ = _
    rw [P_X12_powerOf_4, if_pos (nI_le (by omega) (by omega))]
    rw [Nat.pow_zero, Nat.mul_one]
  | d + 1, k, a, n + 1, hm, hj, hn => by
    show P_X12_powerOf_4 G (nI D) _ _ _ _ = _
    have hp : 0 < 3 ^ d := Nat.pow_pos (by decide)
    have ha : a < 27 := by
      rw [Nat.pow_succ, Nat.mul_comm (3 ^ d) 3, ← Nat.mul_assoc] at hm
      have := Nat.le_mul_of_pos_right (a * 3) hp
      omega
    rw [P_X12_powerOf_4, if_neg (nI_ge (by omega) (by omega)), u_nn, u_nn, mul3 a ha, nI_1, p_pow_at hD d (k + 1) (a * 3) n (by rw [Nat.mul_assoc, Nat.mul_comm 3, ← Nat.pow_succ]; exact hm) (by omega) (by omega), Nat.mul_assoc, Nat.mul_comm 3, ← Nat.pow_succ]
theorem p_powerOf {d : Nat} (hd : d < 4) : p_X12_powerOf G (nI d) w = some (nI (3 ^ d), w) := by
  unfold p_X12_powerOf
  have := p_pow_at (G := G) (w := w) hd d 0 1 bN (by rw [Nat.one_mul]; exact p3_le d hd) (Nat.zero_add _) (bN_gt (by omega))
  rw [nI_0, Nat.one_mul] at this; exact this
theorem p_placeOf {j P : Nat} (hj : j < P) (hP : P < 4) : p_X12_placeOf G (nI j) (nI P) w = some (nI (P - 1 - j), w) := by
  unfold p_X12_placeOf
  rw [plc P hP j hj]
/-- a row's lies are laid -/
theorem lay_both {m P : Nat} (hm : m < 27) (hP : P < 4) : ∀ (d j : Nat) (h : AH) (w : MS), j + d = P → m_t h X = .inl 11 → m_r h X 7 = some (X + 34) → Cab h (X + 34) t w.1 → Sta w.1 → P ≤ sN w.1 → ∃ h' w', (∀ (law : Option Nat) (mi : Int32) (K : AH → Option AH) (N : Nat), d < N → lq1 (F_X11_tryRow_17 G X (nI m) (nI P) law mi K) N (nI j) h = K h') ∧ (∀ (v1 v2 v4 : Int32) (K' : MS → Option MS) (N : Nat), d < N → lw1 (P_X12_laysRests_25 G v1 v2 (nI P) v4 (nI m) K') N (nI j) w = K' w') ∧ Cab h' (X + 34) t w'.1 ∧ Sta w'.1 ∧ Fr (fun a => a = X + 38) h h' ∧ Fw (fun r => r = 8 ∨ r = 71) w w' ∧ (∀ i, j ≤ i → i < P → w'.1 71 i = w.1 12 i) ∧ ∀ i, i < j → w'.1 71 i = w.1 71 i
  | 0, j, h, w, e, hX, h7, hC, hS, hN => by
    refine ⟨h, w, ?_, ?_, hC, hS, Fr.rf, Fw.rf, fun i h1 h2 => by omega, fun i _ => rfl⟩
    · intro law mi K N hn
      obtain ⟨N, rfl⟩ : ∃ M, N = M + 1 := ⟨N - 1, by omega⟩
      show F_X11_tryRow_17 G X (nI m) (nI P) law mi K _ _ _ = _
      rw [F_X11_tryRow_17, if_pos (nI_le (by omega) (by omega))]
    · intro v1 v2 v4 K' N hn
      obtain ⟨N, rfl⟩ : ∃ M, N = M + 1 := ⟨N - 1, by omega⟩
      show P_X12_laysRests_25 G v1 v2 (nI P) v4 (nI m) K' _ _ _ = _
      rw [P_X12_laysRests_25, if_pos (nI_le (by omega) (by omega))]
  | d + 1, j, h, w, e, hX, h7, hC, hS, hN => by
    have hq : j < sN w.1 := by omega
    have hl := lie3 _ (dgt_lt (P - 1 - j) m)
    have hb : bd (4 * nI (dgt (P - 1 - j) m) - 4) (-9) 9 := ⟨hl.2.1, hl.2.2⟩
    have e1 : PW3 (w_si w 8 j (4 * nI (dgt (P - 1 - j) m) - 4)).1 (w_si (w_si w 8 j (4 * nI (dgt (P - 1 - j) m) - 4)) 71 j (w.1 12 j)).1 := fun r q1 q2 i _ _ => by rw [w_si_r (w := w_si w 8 j (4 * nI (dgt (P - 1 - j) m) - 4)) (by omega)]
    have hC1 := (hC.si (st_N8 hS.1) 8 4 j (4 * nI (dgt (P - 1 - j) m) - 4) (by decide)).pw (hS.lie (q := j) hb).1 e1
    have hS1 := (hS.lie (q := j) hb).pw e1
    have hF : Fr (fun a => a = X + 38) h (m_si h (X + 38) j (4 * nI (dgt (P - 1 - j) m) - 4)) := Fr.si rfl
    obtain ⟨h', w', f1, f2, f3, f4, f5, f6, f7, f8⟩ := lay_both hm hP d (j + 1) (m_si h (X + 38) j (4 * nI (dgt (P - 1 - j) m) - 4)) (w_si (w_si w 8 j (4 * nI (dgt (P - 1 - j) m) - 4)) 71 j (w.1 12 j)) (by omega) (by rw [hF.1]; exact hX) (by rw [hF.2.1]; exact h7) hC1 hS1 (by rw [pwN e1]; unfold sN; rw [w_si_r (by decide)]; exact hN)
    refine ⟨h', w', ?_, ?_, f3, f4, hF.tr f5, ((Fw.si (Or.inl rfl)).tr (Fw.si (Or.inr rfl))).tr f6, fun i q1 q2 => ?_, fun i q1 => ?_⟩
    · intro law mi K N hn
      obtain ⟨N, rfl⟩ : ∃ M, N = M + 1 := ⟨N - 1, by omega⟩
      show F_X11_tryRow_17 G X (nI m) (nI P) law mi K _ _ _ = _
      rw [F_X11_tryRow_17, if_neg (nI_ge (by omega) (by omega)), u_ck hX, h7, u_ob, u_ck (cab_t hC), cab_9 hC, u_ob]
      unfold f_X11_lieInRow
      rw [c_digit hm (by omega) hP, u_cb, u_cb, u_ck (cab_x4 hC hS.1 hq), u_nn, u_nn, qc hS.1 hq, hl.1, nI_1]
      exact f1 law mi K N (by omega)
    · intro v1 v2 v4 K' N hn
      obtain ⟨N, rfl⟩ : ∃ M, N = M + 1 := ⟨N - 1, by omega⟩
      show P_X12_laysRests_25 G v1 v2 (nI P) v4 (nI m) K' _ _ _ = _
      rw [P_X12_laysRests_25, if_neg (nI_ge (by omega) (by omega)), p_placeOf (by omega) hP, u_cw, p_third hm (by omega), u_cw, u_ck (q8 hS.1 hq), u_nn, u_ck (q8 hS.1 hq), u_ck (q8 hS.1 hq), u_nn, u_nn, qc hS.1 hq, nI_1, w_si_r (w := w) (k := 8) (r := 12) (by decide)]
      exact f2 v1 v2 v4 K' N (by omega)
    · by_cases z : i = j
      · subst z
        rw [f8 i (by omega), w_si_s]
      · rw [f7 i (by omega) q2, w_si_r (by decide), w_si_r (by decide)]
    · rw [f8 i (by omega), w_si_j (by omega), w_si_r (by decide)]
end
