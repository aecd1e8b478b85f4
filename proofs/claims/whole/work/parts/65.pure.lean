/-! PURE 65: warmth, knobs, who gets out and in: a mile without a rule. -/
def warmI (w k hl cd : Int32) : Int32 := if w + 2 * k - hl - 1 - cd < 0 then 0 else if w + 2 * k - hl - 1 - cd ≤ 60 then w + 2 * k - hl - 1 - cd else 60
theorem warm_bd (w k hl cd : Int32) : bd (warmI w k hl cd) 0 60 := by
  unfold warmI bd
  have i0 : (0 : Int32).toInt = 0 := rfl
  have i6 : (60 : Int32).toInt = 60 := rfl
  split
  · rw [i0]; omega
  · rename_i h1
    rw [I_lt, i0] at h1
    split
    · rename_i h2
      rw [I_le, i6] at h2; omega
    · rw [i6]; omega
theorem c_warmthAfter (G : GG) (w k hl cd : Int32) (h : AH) : f_X11_warmthAfter G w k hl cd h = some (warmI w k hl cd, h) := by
  unfold f_X11_warmthAfter warmI
  simp only [u_nn]
  have i0 : (0 : Int32).toInt = 0 := rfl
  have i6 : (60 : Int32).toInt = 60 := rfl
  by_cases h1 : w + 2 * k - hl - 1 - cd < 0
  · have h2 : w + 2 * k - hl - 1 - cd < 60 := by rw [I_lt, i0] at h1; rw [I_lt, i6]; omega
    have h3 : ¬ (0 : Int32) < w + 2 * k - hl - 1 - cd := by rw [I_lt, i0] at h1; rw [I_lt, i0]; omega
    simp only [if_pos h1, if_pos h2, if_neg h3]
  · by_cases h2 : w + 2 * k - hl - 1 - cd ≤ 60
    · rw [if_neg h1, if_pos h2]
      by_cases h3 : w + 2 * k - hl - 1 - cd < 60
      · rw [if_pos h3]
        by_cases h4 : (0 : Int32) < w + 2 * k - hl - 1 - cd
        · rw [if_pos h4]
        · rw [if_neg h4]
          congr 2
          rw [I_lt, i0] at h1 h4; rw [I_eq, i0]; omega
      · rw [if_neg h3, if_pos (by decide)]
        congr 2
        rw [I_lt, i6] at h3; rw [I_le, i6] at h2; rw [I_eq, i6]; omega
    · have h3 : ¬ w + 2 * k - hl - 1 - cd < 60 := by rw [I_le, i6] at h2; rw [I_lt, i6]; omega
      rw [if_neg h1, if_neg h2, if_neg h3, if_pos (by decide)]
theorem p_warmer (G : GG) (wa k hl cd : Int32) (w : MS) : p_X12_warmer G wa k hl cd w = some (warmI wa k hl cd, w) := by
  unfold p_X12_warmer p_X12_held warmI
  have e0 : (0 : Int64) = (0 : Int32).toInt64 := rfl
  simp only [lg_cmp_ge, lg_cmp_le]
  rw [e0]
  simp only [L_le]
  by_cases h1 : wa + 2 * k - hl - 1 - cd < 0
  · rw [if_pos h1, if_neg (by rw [I_lt] at h1; rw [I_le]; omega)]; rfl
  · rw [if_neg h1, if_pos (by rw [I_lt] at h1; rw [I_le]; omega)]
    by_cases h2 : wa + 2 * k - hl - 1 - cd ≤ 60
    · rw [if_pos h2, if_pos h2, u_cw, Int32.toInt32_toInt64]
    · rw [if_neg h2, if_neg h2, u_cw]
theorem ago_e {n L : Nat} (hn : n < 16384) (hL : L < 7) : (nI n >>> (((2 : Int32) * nI L) &&& 31)) &&& (3 : Int32) = nI (n / 4 ^ L % 4) := by
  have e : nI n >>> (((2 : Int32) * nI L) &&& 31) = nI (n / 2 ^ (2 * L)) := by
    refine pk_shrN (by omega) _ (2 * L) ?_
    revert hL; revert L; decide
  rw [e, pk_andN (k := 2) (Nat.lt_of_le_of_lt (Nat.div_le_self _ _) (by omega)) (by decide), Nat.pow_mul]
theorem u_or (a b : Nat) : nI a ||| nI b = nI (a ||| b) := by
  show Int32.ofNat a ||| Int32.ofNat b = Int32.ofNat (a ||| b)
  rw [← Int32.toBitVec_inj, Int32.toBitVec_or, Int32.toBitVec_ofNat', Int32.toBitVec_ofNat', Int32.toBitVec_ofNat', BitVec.ofNat_or]
theorem older_e {n : Nat} (hn : n < 16384) : ((nI n <<< ((2 : Int32) &&& 31)) ||| (nI n &&& (3 : Int32))) &&& (16383 : Int32) = nI ((4 * n + n % 4) % 16384) := by
  have e1 : nI n <<< ((2 : Int32) &&& 31) = nI (n * 2 ^ 2) := pk_shlN _ 2 (by decide) (by omega)
  rw [e1, pk_andN (k := 2) (by omega) (by decide), u_or]
  have e2 : n * 2 ^ 2 ||| n % 2 ^ 2 = 4 * n + n % 4 := by
    rw [Nat.mul_comm, ← Nat.two_pow_add_eq_or_of_lt (Nat.mod_lt _ (by decide))]
  rw [e2, pk_andN (k := 14) (by omega) (by decide)]
theorem older_kv {n : Nat} (hn : n < 16384) : (4 * n + n % 4) % 16384 < 16384 ∧ (4 * n + n % 4) % 16384 % 4 = n % 4 ∧ ∀ k, k < 6 → (4 * n + n % 4) % 16384 / 4 ^ (k + 1) % 4 = n / 4 ^ k % 4 := by
  refine ⟨by omega, by omega, fun k hk => ?_⟩
  have e1 : (4 * n + n % 4) / 4 = n := by omega
  have e2 : (4 * n + n % 4) / 4 ^ (k + 1) = n / 4 ^ k := by rw [Nat.pow_succ', ← Nat.div_div_eq_div_mul, e1]
  have e3 : 16384 = 4 ^ (k + 1) * 4 ^ (6 - k) := by
    rw [← Nat.pow_add, show k + 1 + (6 - k) = 7 by omega]
  have e4 : 4 ∣ 4 ^ (6 - k) := by
    rw [show 6 - k = (5 - k) + 1 by omega, Nat.pow_succ']; exact Nat.dvd_mul_right _ _
  rw [e3, Nat.mod_mul_right_div_self, e2, Nat.mod_mod_of_dvd _ e4]
theorem p_knobMoves_at (G : GG) : ∀ (k n : Nat) (w : MS), k < n → k ≤ 6 → ∃ w', lw1 (P_X12_knobMoves_3 G) n (nI k) w = some w' ∧ (∀ j, w'.1 2 j = if 1 ≤ j ∧ j ≤ k then w.1 2 (j - 1) else w.1 2 j) ∧ Fw (fun r => r = 2) w w' ∧ w'.2 = w.2
  | 0, n + 1, w, _, _ => by
    refine ⟨w, ?_, fun j => by rw [if_neg (by omega)], Fw.rf, rfl⟩
    show P_X12_knobMoves_3 G _ _ _ = _
    unfold P_X12_knobMoves_3
    rw [if_pos (by decide)]
  | k + 1, n + 1, w, hn, hk => by
    obtain ⟨w', h1, h2, h3, h4⟩ := p_knobMoves_at G k n (w_si w 2 (k + 1) (w.1 2 k)) (by omega) (by omega)
    refine ⟨w', ?_, fun j => ?_, (Fw.si (S := fun r => r = 2) rfl).tr h3, h4⟩
    · show P_X12_knobMoves_3 G _ _ _ = _
      unfold P_X12_knobMoves_3
      rw [if_neg (nI_nle (by omega) (by omega)), nI_pred, u_ck (u_ixn (by omega) (by decide)), u_ck (u_ixn (by omega) (by decide)), nI_clamp (by omega), nI_clamp (by omega), u_nn, u_nn, pk_m1]
      exact h1
    · rw [h2]
      by_cases c1 : 1 ≤ j ∧ j ≤ k
      · rw [if_pos c1, if_pos (by omega), w_si_j (by omega)]
      · rw [if_neg c1]
        by_cases c2 : j = k + 1
        · subst c2
          rw [if_pos (by omega), w_si_s]; rfl
        · rw [if_neg (by omega), w_si_j c2]
theorem St.r1 {v v' : VV} (hS : St v) (e : ∀ r, 3 ≤ r → r ≤ 17 → r ≠ 12 → v' r = v r) (e1 : ∀ i, i < 10 → v' 1 i = v 1 i) (b10 : bd (v' 1 10) 0 240) (b11 : bd (v' 1 11) 0 60) (b13 : bd (v' 1 13) 0 5) (bk : ∀ k, k < 7 → bd (kv v' k) 0 3) : St v' := by
  unfold St SP sN sT sC sL fro at hS ⊢
  rw [e 3 (by decide) (by decide) (by decide), e 4 (by decide) (by decide) (by decide), e 5 (by decide) (by decide) (by decide), e 6 (by decide) (by decide) (by decide), e 7 (by decide) (by decide) (by decide), e 8 (by decide) (by decide) (by decide), e 9 (by decide) (by decide) (by decide), e 10 (by decide) (by decide) (by decide), e 11 (by decide) (by decide) (by decide), e 13 (by decide) (by decide) (by decide), e 14 (by decide) (by decide) (by decide), e 17 (by decide) (by decide) (by decide), e1 0 (by decide), e1 1 (by decide), e1 2 (by decide), e1 3 (by decide), e1 6 (by decide), e1 7 (by decide), e1 8 (by decide), e1 9 (by decide)]
  obtain ⟨a1, a2, a3, a4, a5, a6, a7, a8, a9, a10, a11, a12, a13, a14, a15⟩ := hS
  exact ⟨a1, a2, a3, a4, a5, b10, b11, b13, a9, a10, bk, a12, a13, a14, a15⟩
theorem Cab.sc {h h' : AH} {c t : Nat} {v v' : VV} (hC : Cab h c t v) (hN : sN v ≤ 8) (ht : m_t h' = m_t h) (hr : m_r h' = m_r h) (hi : ∀ a, a ≠ c → m_i h' a = m_i h a) (e : ∀ r, 3 ≤ r → r ≤ 17 → r ≠ 10 → v' r = v r) (e1 : ∀ i, i < 10 → v' 1 i = v 1 i) (i2 : m_i h' c 2 = v' 1 13) (i3 : m_i h' c 3 = v' 1 11) (i4 : m_i h' c 4 = v' 1 10) (i5 : KV (m_i h' c 5) v') : Cab h' c t v' := by
  obtain ⟨hs, hts, htv, hcv, hd⟩ := hC
  refine ⟨⟨hs.1.hp (fun a _ _ => by rw [ht]) (fun k _ => by rw [hr]), by rw [hr]; exact hs.2⟩, hts.hp (fun a _ _ => ⟨by rw [ht], by rw [hr]⟩), ?_, ?_, hd⟩
  · have h1 := htv.hp hN (h' := h') (fun a h1 h2 => hi a (by omega))
    unfold TrV sN sT sC fro at h1 ⊢
    rw [e 3 (by decide) (by decide) (by decide), e 4 (by decide) (by decide) (by decide), e 5 (by decide) (by decide) (by decide), e 6 (by decide) (by decide) (by decide), e 7 (by decide) (by decide) (by decide), e 13 (by decide) (by decide) (by decide), e 14 (by decide) (by decide) (by decide), e 15 (by decide) (by decide) (by decide), e 16 (by decide) (by decide) (by decide), e 17 (by decide) (by decide) (by decide), e1 0 (by decide), e1 1 (by decide), e1 2 (by decide), e1 3 (by decide), e1 4 (by decide), e1 6 (by decide), e1 7 (by decide), e1 8 (by decide), e1 9 (by decide)]
    exact h1
  · obtain ⟨-, -, -, -, h5⟩ := hcv
    refine ⟨i2, i3, i4, i5, ?_⟩
    unfold sN at h5 ⊢
    rw [e1 6 (by decide), e 8 (by decide) (by decide) (by decide), e 9 (by decide) (by decide) (by decide), e 11 (by decide) (by decide) (by decide), e 12 (by decide) (by decide) (by decide), hi (c + 1) (by omega), hi (c + 2) (by omega), hi (c + 3) (by omega), hi (c + 4) (by omega)]
    exact h5
/-- seats -/
theorem and1 (x : Int32) : x &&& 1 = 0 ∨ x &&& 1 = 1 := by
  obtain ⟨j, hj, e⟩ := pk_andE x (m := 1) 1 (by decide)
  rw [e]
  match j, hj with
  | 0, _ => exact Or.inl rfl
  | 1, _ => exact Or.inr rfl
def seatV (v : VV) : Int32 := fs (fun q a => a ||| if v 9 q = -1 then 0 else (1 : Int32) <<< (v 9 q &&& 31)) (sN v) 0 0
def freeB (v : VV) (q s : Nat) : Bool := (decide (s < 4) || decide (fro v q = 0)) && decide (sitV v (nI s) = -1)
def placeV (v : VV) (q : Nat) : Int32 := if freeB v q (v 3 q).toNatClampNeg then v 3 q else match ff (freeB v q) 8 0 with | some s => nI s | none => -1
theorem or_all : ∀ s : Nat, s < 8 → ∀ n : Nat, n < 256 → nI n ||| ((1 : Int32) <<< (nI s &&& 31)) = nI (n ||| 2 ^ s) ∧ n ||| 2 ^ s < 256 := by decide +kernel
theorem fr_all : ∀ s : Nat, s < 8 → ∀ n : Nat, n < 256 → (((255 : Int32) &&& (nI n ^^^ (-1 : Int32))) >>> (nI s &&& 31)) &&& 1 = (if n.testBit s then 0 else 1) ∧ (((15 : Int32) &&& (nI n ^^^ (-1 : Int32))) >>> (nI s &&& 31)) &&& 1 = (if s < 4 ∧ n.testBit s = false then 1 else 0) := by decide +kernel
theorem nI_m1 {q : Nat} (h : q < 2 ^ 31) : nI q ≠ -1 := fun e => by
  have h1 := nI_toInt h
  rw [e] at h1
  have : (-1 : Int32).toInt = -1 := rfl
  omega
theorem sitV_no {v : VV} (hN : sN v ≤ 8) {s : Int32} : sitV v s = -1 ↔ ∀ q, q < sN v → v 9 q ≠ s := by
  unfold sitV
  cases e : ff (fun q => decide (v 9 q = s)) (sN v) 0 with
  | none =>
    refine ⟨fun _ q hq => ?_, fun _ => rfl⟩
    exact of_decide_eq_false (ff_none e q (by omega) (by omega))
  | some j =>
    obtain ⟨h1, h2, h3, h4⟩ := ff_some e
    refine ⟨fun h5 => absurd h5 (nI_m1 (by omega)), fun h5 => absurd (of_decide_eq_true h3) (h5 j (by omega))⟩
theorem sit_s {v : VV} (hS : St v) {q : Nat} (hq : q < sN v) (h : v 9 q ≠ -1) : ∃ s, s < 8 ∧ v 9 q = nI s := by
  have h1 := (st_P hS hq).2.2.2.2.2.2.2.1
  have h0 : (v 9 q).toInt ≠ -1 := fun e2 => h (by rw [I_eq, e2]; rfl)
  obtain ⟨k, h2, h3⟩ := bd_nI (x := v 9 q) (b := 7) ⟨by have := h1.1; omega, h1.2⟩
  exact ⟨k, by omega, h3⟩
theorem nI_inj8 {a b : Nat} (ha : a < 8) (hb : b < 8) (e : nI a = nI b) : a = b := (nI_eq (by omega) (by omega)).mp e
theorem seat_bits {v : VV} (hS : St v) : ∃ n : Nat, n < 256 ∧ seatV v = nI n ∧ ∀ s, s < 8 → (n.testBit s = false ↔ sitV v (nI s) = -1) := by
  have : (fun (j : Nat) (a : Int32) => ∃ n : Nat, n < 256 ∧ a = nI n ∧ ∀ s, s < 8 → (n.testBit s = false ↔ ∀ q, q < j → v 9 q ≠ nI s)) (0 + sN v) (seatV v) := by
    refine fs_inv (P := fun (j : Nat) (a : Int32) => ∃ n : Nat, n < 256 ∧ a = nI n ∧ ∀ s, s < 8 → (n.testBit s = false ↔ ∀ q, q < j → v 9 q ≠ nI s)) ⟨0, by decide, by decide, fun s _ => ⟨fun _ q hq => by omega, fun _ => Nat.zero_testBit s⟩⟩ ?_
    intro j _ hj a ⟨n, h1, h2, h3⟩
    by_cases h4 : v 9 j = -1
    · refine ⟨n, h1, by rw [if_pos h4, Int32.or_zero, h2], fun s hs => ⟨fun h5 q hq => ?_, fun h5 => (h3 s hs).mpr (fun q hq => h5 q (by omega))⟩⟩
      by_cases e : q = j
      · subst e; rw [h4]; exact fun e2 => nI_m1 (by omega) e2.symm
      · exact (h3 s hs).mp h5 q (by omega)
    · obtain ⟨s0, hs0, e0⟩ := sit_s hS (q := j) (by omega) h4
      have ho := or_all s0 hs0 n h1
      refine ⟨n ||| 2 ^ s0, ho.2, by rw [if_neg h4, h2, e0, ho.1], fun s hs => ?_⟩
      rw [Nat.testBit_or, Nat.testBit_two_pow, Bool.or_eq_false_iff]
      refine ⟨fun h5 q hq => ?_, fun h5 => ⟨(h3 s hs).mpr (fun q hq => h5 q (by omega)), ?_⟩⟩
      · by_cases e : q = j
        · subst e; rw [e0]; intro e2
          have := nI_inj8 hs0 hs e2
          subst this
          simp at h5
        · exact (h3 s hs).mp h5.1 q (by omega)
      · have := h5 j (by omega)
        rw [e0] at this
        simp only [decide_eq_false_iff_not]
        intro e; subst e; exact this rfl
  rw [Nat.zero_add] at this
  obtain ⟨n, h1, h2, h3⟩ := this
  exact ⟨n, h1, h2, fun s hs => (h3 s hs).trans (sitV_no (st_N8 hS)).symm⟩
section
variable {G : GG} {h : AH} {w : MS} {c t q : Nat} {v : VV}
theorem c_seatBits (hC : Cab h c t v) (hS : St v) : f_X0_seatBits G c h = some (seatV v, h) := by
  unfold f_X0_seatBits
  show lq2 (F_X0_seatBits_4 G c) bN 0 (nI 0) h = _
  refine lq2_fs (N := sN v) (fun q a => a ||| if v 9 q = -1 then 0 else (1 : Int32) <<< (v 9 q &&& 31)) (fun a => some (a, h)) ?_ ?_ (d := sN v) (Nat.zero_add _) (bN8 hS)
  · intro self a
    unfold F_X0_seatBits_4
    simp only [u_nn, u_ob, u_cb, u_cw, u_ck, on_s, on_n, cab_t hC, cab_0 hC, cab_6 hC, cab_7 hC, cab_8 hC, cab_9 hC, tr_t hC, tr_6 hC, tr_8 hC, tr_9 hC, tr_11 hC, tr_12 hC, tr_13 hC, cab_i2 hC, cab_i3 hC, cab_i4 hC, tr_i0 hC, tr_i1 hC, tr_i2 hC, tr_i3 hC, tr_i4 hC, tr_i5 hC, tr_i7 hC, tr_i10 hC, nle_N hS, if_true]
  · intro self a q hq
    unfold F_X0_seatBits_4
    simp only [u_nn, u_ob, u_cb, u_cw, u_ck, on_s, on_n, cab_t hC, cab_0 hC, cab_6 hC, cab_7 hC, cab_8 hC, cab_9 hC, tr_t hC, tr_6 hC, tr_8 hC, tr_9 hC, tr_11 hC, tr_12 hC, tr_13 hC, cab_i2 hC, cab_i3 hC, cab_i4 hC, tr_i0 hC, tr_i1 hC, tr_i2 hC, tr_i3 hC, tr_i4 hC, tr_i5 hC, tr_i7 hC, tr_i10 hC, q8 hS hq, qc hS hq, cab_x1 hC hS hq, cab_x2 hC hS hq, cab_x3 hC hS hq, cab_x4 hC hS hq, cab_v1 hC hq, cab_v2 hC hq, cab_v3 hC hq, cab_v4 hC hq, tr_x1 hC hS hq, tr_rq hC hS hq, tr_tq hC hS hq, tr_q0 hC hq, tr_q1 hC hq, tr_q2 hC hq, tr_q3 hC hq, tr_q4 hC hq, tr_q6 hC hq, nle_q hS hq, if_false]
    by_cases e : v 9 q = -1 <;> simp only [e, if_true, if_false]
theorem own_s (hS : St v) (hq : q < sN v) : ∃ s, s < 8 ∧ v 3 q = nI s := by
  obtain ⟨k, h2, h3⟩ := bd_nI (x := v 3 q) (b := 7) (st_P hS hq).1
  exact ⟨k, by omega, h3⟩
theorem c_placeFor (hC : Cab h c t v) (hS : St v) (hq : q < sN v) : f_X0_placeFor G c (t + 7 + q) h = some (placeV v q, h) := by
  obtain ⟨n, hn, e1, e2⟩ := seat_bits hS
  obtain ⟨s0, hs0, e0⟩ := own_s hS hq
  have key : ∀ m : Int32, (m = if fro v q = 0 then 255 else 15) → ∀ s, s < 8 → (((m &&& (nI n ^^^ (-1 : Int32))) >>> (nI s &&& 31)) &&& 1 = if freeB v q s then 1 else 0) := by
    intro m hm s hs
    have h1 := fr_all s hs n hn
    have h2 := e2 s hs
    unfold freeB
    subst hm
    by_cases h3 : fro v q = 0
    · rw [if_pos h3, h1.1]
      cases h4 : n.testBit s
      · have := h2.mp h4; simp [h3, this]
      · have : ¬ sitV v (nI s) = -1 := fun e => by rw [h2.mpr e] at h4; cases h4
        simp [this]
    · rw [if_neg h3, h1.2]
      cases h4 : n.testBit s
      · have := h2.mp h4
        by_cases h5 : s < 4 <;> simp [h3, h5, this]
      · have : ¬ sitV v (nI s) = -1 := fun e => by rw [h2.mpr e] at h4; cases h4
        simp [this]
  have main : ∀ m : Int32, (m = if fro v q = 0 then 255 else 15) → (if ((m &&& (nI n ^^^ (-1 : Int32))) >>> (v 3 q &&& 31)) &&& 1 = 0 then lq1 (F_X0_placeFor_44 G (m &&& (nI n ^^^ (-1 : Int32)))) bN 0 h else some (v 3 q, h)) = some (placeV v q, h) := by
    intro m hm
    have hk := key m hm
    unfold placeV
    rw [e0, nI_clamp (by omega), hk s0 hs0]
    by_cases hf : freeB v q s0 = true
    · rw [hf, if_neg (by decide)]; simp
    · have hf' : freeB v q s0 = false := by simpa using hf
      rw [hf']
      have : lq1 (F_X0_placeFor_44 G (m &&& (nI n ^^^ (-1 : Int32)))) bN (nI 0) h = match ff (freeB v q) 8 0 with | some s => some (nI s, h) | none => some (-1, h) := by
        refine lq1_ff (N := 8) (freeB v q) (fun s => some (nI s, h)) (some (-1, h)) ?_ ?_ ?_ (d := 8) rfl (bN_gt (by decide))
        · intro self
          unfold F_X0_placeFor_44
          rw [if_pos (by decide)]
        · intro self s hs hp
          unfold F_X0_placeFor_44
          rw [if_neg (show ¬ (8 : Int32) ≤ nI s from nI_ge (b := 8) hs (by decide)), hk s hs, hp, if_neg (by decide)]
        · intro self s hs hp
          unfold F_X0_placeFor_44
          rw [if_neg (show ¬ (8 : Int32) ≤ nI s from nI_ge (b := 8) hs (by decide)), hk s hs, hp, if_pos (by decide), u_nn]
      rw [nI_0] at this
      rw [this]
      simp only [Bool.false_eq_true, if_false, if_true]
      cases ff (freeB v q) 8 0 <;> rfl
  unfold f_X0_placeFor
  rw [u_ck (tr_tq hC hS hq), u_nn, tr_q6 hC hq]
  by_cases h3 : fro v q = 0
  · rw [if_pos h3]; dsimp only; rw [u_ck (cab_t hC), c_seatBits hC hS, u_cb, u_nn, u_ck (tr_tq hC hS hq), tr_q0 hC hq, e1]
    exact main 255 (by rw [if_pos h3])
  · rw [if_neg h3]; dsimp only; rw [u_ck (cab_t hC), c_seatBits hC hS, u_cb, u_nn, u_ck (tr_tq hC hS hq), tr_q0 hC hq, e1]
    exact main 15 (by rw [if_neg h3])
theorem p_has (hS : St w.1) (hq : q < sN w.1) : p_X12_has G (w.1 1 7) (nI q) w = some (fro w.1 q, w) := by
  unfold p_X12_has fro
  rcases and1 (w.1 1 7 >>> (nI q &&& 31)) with e | e <;> rw [e] <;> rfl
theorem p_maySit (hS : St w.1) (hq : q < sN w.1) (s : Int32) : p_X12_maySit G (nI q) s w = some (if s < 4 ∨ fro w.1 q = 0 then 1 else 0, w) := by
  unfold p_X12_maySit
  simp only [u_nn, u_ob, u_cb, u_cw, u_ck, on_s, on_n, ix_1_0, ix_7_0, ix_10_0, ix_10_1, ix_10_2, ix_10_3, ix_10_4, ix_10_5, ix_10_6, ix_10_7, ix_10_8, ix_10_9, ix_13_0, ix_13_1, ix_13_2, ix_13_3, ix_13_4, ix_13_5, ix_13_6, ix_13_7, ix_13_8, ix_13_9, ix_13_10, ix_13_11, ix_13_12, ix_17_0, ix_17_1, ix_17_2, ix_17_3, ix_17_4, ix_17_6, ix_17_7, ix_17_8, ix_17_9, ix_17_10, ix_17_11, ix_17_12, ix_17_13, ix_17_14, ix_17_15, ix_17_16, ix_256_0, ix_300_0, tn_0, tn_1, tn_2, tn_3, tn_4, tn_5, tn_6, tn_7, tn_8, tn_9, tn_10, tn_11, tn_12, tn_13, tn_14, tn_15, tn_16, tn_366, p_has hS hq]
  by_cases h1 : s < 4
  · rw [if_pos h1, if_pos (Or.inl h1)]
  · rw [if_neg h1]
    by_cases h2 : fro w.1 q = 0
    · rw [if_pos h2, if_pos (Or.inr h2)]
    · rw [if_neg h2, if_neg (fun e => e.elim h1 h2)]
theorem ff_app {p : Nat → Bool} : ∀ {d e k : Nat}, ff p (d + e) k = match ff p d k with | some j => some j | none => ff p e (k + d)
  | 0, e, k => by simp [ff]
  | d + 1, e, k => by
    rw [show d + 1 + e = (d + e) + 1 by omega]
    show (if p k then some k else ff p (d + e) (k + 1)) = match (if p k then some k else ff p d (k + 1)) with | some j => some j | none => ff p e (k + (d + 1))
    by_cases h : p k = true
    · rw [if_pos h, if_pos h]
    · rw [if_neg h, if_neg h, ff_app, show k + 1 + d = k + (d + 1) by omega]
theorem ff_no {p : Nat → Bool} : ∀ {d k : Nat}, (∀ j, k ≤ j → j < k + d → p j = false) → ff p d k = none
  | 0, _, _ => rfl
  | d + 1, k, h => by
    unfold ff
    rw [h k (by omega) (by omega), ff_no (fun j h1 h2 => h j (by omega) (by omega))]; rfl
theorem sd_loop (hS : St w.1) (q : Int32) (K : Int32 → MS → Option MS) {D : Nat} (hD : D < 8) : ∀ (d k n : Nat), k + d = D + 1 → d + 1 < n → lw2 (P_X12_sitsDown_63 G q (nI D) K) n (-1) (nI k) w = K (match ff (fun s => decide (sitV w.1 (nI s) = -1)) d k with | some s => nI s | none => -1) w
  | 0, k, n + 1, e, _ => by
    show P_X12_sitsDown_63 G q (nI D) K _ _ _ _ = _
    rw [P_X12_sitsDown_63]
    rw [if_pos (nI_lt (by omega) (by omega))]; rfl
  | d + 1, k, n + 1, e, hn => by
    show P_X12_sitsDown_63 G q (nI D) K _ _ _ _ = _
    rw [P_X12_sitsDown_63]
    rw [if_neg (nI_nlt (by omega) (by omega)), if_pos rfl, p_sitterOf hS (nI_m1 (by omega)), u_cw, u_nn]
    unfold ff
    by_cases h1 : sitV w.1 (nI k) = -1
    · rw [if_pos h1]; dsimp only; rw [u_nn, if_pos (by simpa using h1)]
      obtain ⟨m, rfl⟩ : ∃ m, n = m + 1 := ⟨n - 1, by omega⟩
      show P_X12_sitsDown_63 G q (nI D) K _ _ _ _ = _
      rw [P_X12_sitsDown_63]
      rw [nI_1]
      by_cases h2 : nI D < nI (k + 1)
      · rw [if_pos h2]
      · rw [if_neg h2, if_neg (nI_m1 (by omega))]
    · rw [if_neg h1]; dsimp only; rw [u_nn, if_neg (by simpa using h1), nI_1]
      exact sd_loop hS q K hD d (k + 1) n (by omega) (by omega)
theorem p_sitsDown (hS : St w.1) (hq : q < sN w.1) : p_X12_sitsDown G (nI q) w = some (w_si (w_si w 10 q 1) 9 q (placeV w.1 q)) := by
  obtain ⟨s0, hs0, e0⟩ := own_s hS hq
  have hK : ∀ b : Int32, ∀ k : Int32, (if b = -1 then placeV w.1 q = (match ff (freeB w.1 q) 8 0 with | some s => nI s | none => -1) else placeV w.1 q = b) → (cw (p_X12_has G (w.1 1 7) (nI q) w) fun r8 w6 => nn (fun (s0_59 : Int32) => (lw2 (P_X12_sitsDown_63 G (nI q) s0_59 (fun (v2_97 : Int32) (h_97 : MS) => (ck (ixn 8 (nI q) = true) <| nn (w_si h_97 10 q (1 : Int32)) fun w17 => ck (ixn 8 (nI q) = true) <| nn (w_si w17 9 q v2_97) fun w19 => some w19))) bN b (0 : Int32) w6)) fun j_59 => if r8 = 0 then (j_59 (7 : Int32)) else j_59 (3 : Int32)) = some (w_si (w_si w 10 q 1) 9 q (placeV w.1 q)) := by
    intro b _ hb
    rw [p_has hS hq, u_cw, u_nn]
    have fin : ∀ x, (ck (ixn 8 (nI q) = true) <| nn (w_si w 10 q (1 : Int32)) fun w17 => ck (ixn 8 (nI q) = true) <| nn (w_si w17 9 q x) fun w19 => some w19) = some (w_si (w_si w 10 q 1) 9 q x) := fun x => by
      rw [u_ck (q8 hS hq), u_nn, u_ck (q8 hS hq), u_nn]
    by_cases hb1 : b = -1
    · rw [if_pos hb1] at hb
      subst hb1
      by_cases h3 : fro w.1 q = 0
      · rw [if_pos h3]
        have := sd_loop (G := G) hS (nI q) (fun (v2_97 : Int32) (h_97 : MS) => (ck (ixn 8 (nI q) = true) <| nn (w_si h_97 10 q (1 : Int32)) fun w17 => ck (ixn 8 (nI q) = true) <| nn (w_si w17 9 q v2_97) fun w19 => some w19)) (D := 7) (by decide) 8 0 bN rfl (bN_gt (by decide))
        rw [nI_0] at this
        refine this.trans ?_
        rw [fin, hb]
        congr 2
        have : ff (fun s => decide (sitV w.1 (nI s) = -1)) 8 0 = ff (freeB w.1 q) 8 0 := ff_cong (fun j _ _ => by unfold freeB; simp [h3])
        rw [this]
      · rw [if_neg h3]
        have := sd_loop (G := G) hS (nI q) (fun (v2_97 : Int32) (h_97 : MS) => (ck (ixn 8 (nI q) = true) <| nn (w_si h_97 10 q (1 : Int32)) fun w17 => ck (ixn 8 (nI q) = true) <| nn (w_si w17 9 q v2_97) fun w19 => some w19)) (D := 3) (by decide) 4 0 bN rfl (bN_gt (by decide))
        rw [nI_0] at this
        refine this.trans ?_
        rw [fin, hb]
        congr 2
        have e4 : ff (fun s => decide (sitV w.1 (nI s) = -1)) 4 0 = ff (freeB w.1 q) 4 0 := ff_cong (fun j _ hj => by unfold freeB; simp [show j < 4 by omega])
        have e5 : ff (freeB w.1 q) 4 (0 + 4) = none := ff_no (fun j h1 _ => by unfold freeB; simp [h3, show ¬ j < 4 by omega])
        have e6 := ff_app (p := freeB w.1 q) (d := 4) (e := 4) (k := 0)
        rw [e5] at e6
        rw [show (8 : Nat) = 4 + 4 from rfl, e6, e4]
        cases ff (freeB w.1 q) 4 0 <;> rfl
    · rw [if_neg hb1] at hb
      have go : ∀ D : Int32, ¬ D < 0 → lw2 (P_X12_sitsDown_63 G (nI q) D (fun (v2_97 : Int32) (h_97 : MS) => (ck (ixn 8 (nI q) = true) <| nn (w_si h_97 10 q (1 : Int32)) fun w17 => ck (ixn 8 (nI q) = true) <| nn (w_si w17 9 q v2_97) fun w19 => some w19))) bN b (0 : Int32) w = some (w_si (w_si w 10 q 1) 9 q (placeV w.1 q)) := by
        intro D hD
        have : ∀ n : Nat, 0 < n → lw2 (P_X12_sitsDown_63 G (nI q) D (fun (v2_97 : Int32) (h_97 : MS) => (ck (ixn 8 (nI q) = true) <| nn (w_si h_97 10 q (1 : Int32)) fun w17 => ck (ixn 8 (nI q) = true) <| nn (w_si w17 9 q v2_97) fun w19 => some w19))) n b (0 : Int32) w = some (w_si (w_si w 10 q 1) 9 q (placeV w.1 q)) := by
          intro n hn
          obtain ⟨m, rfl⟩ : ∃ m, n = m + 1 := ⟨n - 1, by omega⟩
          show P_X12_sitsDown_63 G (nI q) D _ _ _ _ _ = _
          rw [P_X12_sitsDown_63, if_neg hD, if_neg hb1, fin, hb]
        exact this bN (bN_gt (by decide))
      by_cases h3 : fro w.1 q = 0
      · rw [if_pos h3]; exact go 7 (by decide)
      · rw [if_neg h3]; exact go 3 (by decide)
  have hne : w.1 3 q ≠ -1 := by rw [e0]; exact nI_m1 (by omega)
  have hfb : freeB w.1 q (w.1 3 q).toNatClampNeg = (decide (w.1 3 q < 4 ∨ fro w.1 q = 0) && decide (sitV w.1 (w.1 3 q) = -1)) := by
    rw [e0, nI_clamp (by omega)]
    unfold freeB
    have : (nI s0 < 4) ↔ s0 < 4 := nI_ltI (b := 4) (by omega) (by decide)
    simp only [this, Bool.decide_or]
  unfold p_X12_sitsDown
  rw [u_ck (q8 hS hq), qc hS hq, p_maySit hS hq, u_cw, u_nn, u_nn]
  by_cases h1 : w.1 3 q < 4 ∨ fro w.1 q = 0
  · rw [if_pos h1, if_neg (by decide), u_ck (q8 hS hq), p_sitterOf hS hne, u_cw]
    by_cases h2 : sitV w.1 (w.1 3 q) = -1
    · rw [if_pos h2, u_ck (q8 hS hq)]; dsimp only; rw [u_ck ix_17_7, tn_7]
      refine hK (w.1 3 q) 0 ?_
      rw [if_neg hne]
      unfold placeV
      rw [hfb, if_pos (by simp [h1, h2])]
    · rw [if_neg h2]; dsimp only; rw [u_ck ix_17_7, tn_7]
      refine hK (-1) 0 ?_
      rw [if_pos rfl]
      unfold placeV
      rw [hfb, if_neg (by simp [h2])]
  · rw [if_neg h1, if_pos rfl]; dsimp only; rw [u_ck ix_17_7, tn_7]
    refine hK (-1) 0 ?_
    rw [if_pos rfl]
    unfold placeV
    rw [hfb, if_neg (by simp [h1])]
end
