/-! PURE 94: journeys: draws, riders. -/
section
variable {G : GG} {own : Nat → Nat} {R X c t U : Nat} {h h0 h1 h2 h' : AH} {w w0 w' w1 w2 w3 : MS} {v v' v0 : VV}
def drx (d : Int32) : Int64 := d.toInt64 * (1103515245 : Int64) + (12345 : Int64)
def drw (d : Int32) : Int32 := (drx d &&& (2147483647 : Int64)).toInt32
theorem L_bm {x : Int} (h1 : -9223372036854775808 ≤ x) (h2 : x < 9223372036854775808) : x.bmod (2 ^ 64) = x := by
  rw [Int.bmod_def]; omega
theorem drx_i {d : Int32} (hd : 0 ≤ d) : ∃ n : Nat, n < 2 ^ 62 ∧ (drx d).toInt = n := by
  have h1 := d.toInt_lt
  rw [I_le] at hd
  have i0 : (0 : Int32).toInt = 0 := rfl
  have k1 : (1103515245 : Int64).toInt = 1103515245 := rfl
  have k2 : (12345 : Int64).toInt = 12345 := rfl
  have e : (drx d).toInt = d.toInt * 1103515245 + 12345 := by
    unfold drx
    rw [Int64.toInt_add, Int64.toInt_mul, Int32.toInt_toInt64, k1, k2, L_bm (x := d.toInt * 1103515245) (by omega) (by omega), L_bm (by omega) (by omega)]
  refine ⟨(d.toInt * 1103515245 + 12345).toNat, by omega, by rw [e]; omega⟩
theorem and_mod {x : Int64} {n : Nat} (hn : n < 2 ^ 62) (hx : x.toInt = n) : x - x / (2147483648 : Int64) * (2147483648 : Int64) = x &&& (2147483647 : Int64) ∧ (x &&& (2147483647 : Int64)).toInt = ((n % 2147483648 : Nat) : Int) := by
  have k1 : (2147483648 : Int64).toInt = 2147483648 := rfl
  have e1 : (x / (2147483648 : Int64)).toInt = ((n / 2147483648 : Nat) : Int) := by
    rw [Int64.toInt_div, hx, k1, Int.tdiv_eq_ediv_of_nonneg (by omega), L_bm (by omega) (by omega)]
    omega
  have e2 : (x - x / (2147483648 : Int64) * (2147483648 : Int64)).toInt = ((n % 2147483648 : Nat) : Int) := by
    rw [Int64.toInt_sub, Int64.toInt_mul, e1, hx, k1, L_bm (x := ((n / 2147483648 : Nat) : Int) * 2147483648) (by omega) (by omega), L_bm (by omega) (by omega)]
    omega
  have e3 : x = Int64.ofNat n := by
    rw [← Int64.toInt_inj, hx, Int64.toInt_ofNat_of_lt (by omega)]
  have e4 : x &&& (2147483647 : Int64) = Int64.ofNat (n % 2147483648) := by
    rw [e3, show (2147483647 : Int64) = Int64.ofNat 2147483647 from rfl, ← Int64.toBitVec_inj, Int64.toBitVec_and, Int64.toBitVec_ofNat', Int64.toBitVec_ofNat', Int64.toBitVec_ofNat', ← BitVec.ofNat_and]
    congr 1
    exact Nat.and_two_pow_sub_one_eq_mod n 31
  have e5 : (x &&& (2147483647 : Int64)).toInt = ((n % 2147483648 : Nat) : Int) := by
    rw [e4, Int64.toInt_ofNat_of_lt (by omega)]
  exact ⟨by rw [← Int64.toInt_inj, e2, e5], e5⟩
theorem drw_e {d : Int32} (hd : 0 ≤ d) : (drx d - drx d / (2147483648 : Int64) * (2147483648 : Int64)).toInt32 = drw d ∧ 0 ≤ drw d := by
  obtain ⟨n, hn, e⟩ := drx_i hd
  obtain ⟨a1, a2⟩ := and_mod hn e
  refine ⟨by rw [a1]; rfl, ?_⟩
  unfold drw
  rw [I_le, Int64.toInt_toInt32, a2, I_bm (by omega) (by omega)]
  have i0 : (0 : Int32).toInt = 0 := rfl
  omega
theorem c_nextDraw (hX : m_t h X = .inl 11) : f_X11_nextDraw G X h = some (drw (m_i h X 12) / 65536, m_si h X 12 (drw (m_i h X 12))) := by
  unfold f_X11_nextDraw
  rw [u_ck hX, u_nn, m_i_ss]; rfl
theorem p_draws (h0 : 0 ≤ w.1 1 15) {x : Int32} (hx : ¬ x = 0) : p_X12_draws G x w = some (drw (w.1 1 15) / 65536 - drw (w.1 1 15) / 65536 / x * x, w_si w 1 15 (drw (w.1 1 15))) := by
  unfold p_X12_draws
  rw [u_ck ix_17_15, u_ck ix_17_15, u_nn, u_ck ix_17_15, u_ck hx, tn_15, w_si_s, ← (drw_e h0).1]; rfl
/-- how many ride -/
def cN (v : VV) : Nat → Nat → Nat
  | 0, _ => 0
  | d + 1, k => (if v 10 k = 0 then 0 else 1) + cN v d (k + 1)
theorem cN_le (v : VV) : ∀ d k, cN v d k ≤ d
  | 0, _ => Nat.le_refl _
  | d + 1, k => by
    have := cN_le v d (k + 1)
    unfold cN
    by_cases z : v 10 k = 0
    · rw [if_pos z]; omega
    · rw [if_neg z]; omega
theorem cnt_at (hS : St v) : ∀ (d k a : Nat), k + d ≤ sN v → a + d ≤ 100 → fs (fun q x => x + v 10 q) d k (nI a) = nI (a + cN v d k)
  | 0, _, _, _, _ => rfl
  | d + 1, k, a, e, ha => by
    show fs (fun q x => x + v 10 q) d (k + 1) (nI a + v 10 k) = _
    unfold cN
    rcases ab01 hS (show k < sN v by omega) with z | z
    · rw [z, if_pos rfl, Int32.add_zero, cnt_at hS d (k + 1) a (by omega) (by omega), Nat.zero_add]
    · rw [z, if_neg n10, nI_1, cnt_at hS d (k + 1) (a + 1) (by omega) (by omega), Nat.add_assoc]
theorem cnt_e (hS : St v) : cntV v = nI (cN v (sN v) 0) := by
  have := cnt_at hS (sN v) 0 0 (by omega) (by have := st_N8 hS; omega)
  rw [Nat.zero_add, nI_0] at this
  exact this
theorem rider_both (hC : Cab h c t w.1) (hS : Sta w.1) : ∀ (d k a i n : Nat), k + d = sN w.1 → d < n → i < cN w.1 d k → a + d ≤ 100 → ∃ q, q < sN w.1 ∧ lq2 (F_X0_personAboard_4 G c (nI (a + i))) n (nI a) (nI k) h = some (nI q, h) ∧ lw2 (P_X12_riderOf_4 G) n (nI i) (nI k) w = some (nI q, w)
  | 0, _, _, _, _, _, _, hi, _ => absurd hi (Nat.not_lt_zero _)
  | d + 1, k, a, i, n + 1, e, hn, hi, ha => by
    have hk : k < sN w.1 := by omega
    have hN8 := st_N8 hS.1
    have c1 : lq2 (F_X0_personAboard_4 G c (nI (a + i))) (n + 1) (nI a) (nI k) h = if w.1 10 k = 0 then lq2 (F_X0_personAboard_4 G c (nI (a + i))) n (nI a) (nI (k + 1)) h else if nI a = nI (a + i) then some (nI k, h) else lq2 (F_X0_personAboard_4 G c (nI (a + i))) n (nI (a + 1)) (nI (k + 1)) h := by
      show F_X0_personAboard_4 G c (nI (a + i)) _ _ _ _ = _
      rw [F_X0_personAboard_4, u_ck (cab_t hC), cab_0 hC, u_ob, u_ck (tr_t hC), tr_i5 hC, if_neg (of_eq_false (nle_q hS.1 hk)), c_isAboard hC hS.1 hS.2.1 hk, u_cb, u_nn, ← nI_1 (a := k), ← nI_1 (a := a)]; rfl
    have p1 : lw2 (P_X12_riderOf_4 G) (n + 1) (nI i) (nI k) w = if w.1 10 k = 0 then lw2 (P_X12_riderOf_4 G) n (nI i) (nI (k + 1)) w else if nI i = 0 then some (nI k, w) else lw2 (P_X12_riderOf_4 G) n (nI i + (-1)) (nI (k + 1)) w := by
      show P_X12_riderOf_4 G _ _ _ _ = _
      rw [P_X12_riderOf_4, u_ck ix_17_6, tn_6, if_neg (of_eq_false (nle_q hS.1 hk)), p_rides hS.1 hk, u_cw, u_nn, ← nI_1 (a := k)]; rfl
    unfold cN at hi
    rw [c1, p1]
    by_cases z : w.1 10 k = 0
    · rw [if_pos z] at hi
      rw [if_pos z, if_pos z]
      exact rider_both hC hS d (k + 1) a i n (by omega) (by omega) (by omega) (by omega)
    · rw [if_neg z] at hi
      have hc := cN_le w.1 d (k + 1)
      rw [if_neg z, if_neg z]
      cases i with
      | zero => exact ⟨k, hk, by rw [if_pos (show nI a = nI (a + 0) from rfl)], by rw [if_pos (show nI 0 = 0 from rfl)]⟩
      | succ i =>
        have n1 : ¬ nI a = nI (a + (i + 1)) := fun y => by rw [I_eq, nI_toInt (by omega), nI_toInt (by omega)] at y; omega
        have n2 : ¬ nI (i + 1) = 0 := fun y => by rw [I_eq, nI_toInt (by omega)] at y; have i0 : (0 : Int32).toInt = 0 := rfl; omega
        have n3 : nI (i + 1) + (-1) = nI i := by rw [← Int32.sub_eq_add_neg]; exact nI_pred i
        rw [if_neg n1, if_neg n2, n3, show a + (i + 1) = a + 1 + i by omega]
        exact rider_both hC hS d (k + 1) (a + 1) i n (by omega) (by omega) (by omega) (by omega)
end
