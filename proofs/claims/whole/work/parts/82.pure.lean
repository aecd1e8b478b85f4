/-! PURE 82: pull, turn, say, mile, undo. -/
section
variable {G : GG} {own : Nat → Nat} {R X c t U : Nat} {h h1 h' : AH} {w w1 w2 : MS} {v v' v0 : VV}
/-- an act begun on both sides -/
theorem act_both (hR : RelO own R h X w) (hcur : Cur own R h X w U c t) (told : w.1 1 0 = 1) : ∃ h' w1, f_X6_act G (X + 10) h = some (m_n h, h') ∧ p_X12_keepsAct G w = some w1 ∧ Cab h' (m_n h) t w1.1 ∧ Sta w1.1 ∧ PW w.1 w1.1 ∧ (∀ r, 1 ≤ r → r ≠ 53 → w1.1 r = w.1 r) ∧ m_t h' X = .inl 11 ∧ m_r h' X = m_r h X ∧ m_t h' (X + 10) = .inl 6 ∧ m_i h' (X + 10) 2 = w.1 1 16 ∧ m_i h' X = m_i h X ∧ LwR own R h' X w.1 ∧ m_r h' (X + 9) = m_r h (X + 9) ∧ m_t h' (X + 9) = m_t h (X + 9) ∧ m_n h' = m_n h + 5 ∧ ∀ h1 w2, Fr (fun a => (m_n h ≤ a ∧ a < m_n h + 5) ∨ (X + 122 ≤ a ∧ Scr X R h a)) h' h1 → (∀ r, r ≠ 1 → r ≠ 2 → r ≠ 8 → r ≠ 9 → r ≠ 10 → r ≠ 11 → r ≠ 12 → r ≠ 52 → w2.1 r = w1.1 r) → (∀ i, i < 10 ∨ 14 ≤ i → w2.1 1 i = w1.1 1 i) → Cab h1 (m_n h) t w2.1 → Sta w2.1 → Rel h1 X w2 ∧ Kp X h h1 := by
  have hcur' := hcur
  obtain ⟨hB, hSt, hCD, hV, hU, hLg, hU0, hch, hss⟩ := hcur
  obtain ⟨hC, hCa⟩ := hCD.cab told
  have hg8 := hR.1.2.2.2.2.2.2.2
  obtain ⟨h', a1, a2, a3, a4, a5, a6, a7, a8, a9⟩ := c_act (G := G) hC (st_N8 hSt.1) hCa hB.1.2.2.1 hB.1.2.2.2.1 hV.1 hV.2.1 hg8
  obtain ⟨w1, k1, k2, k3, k4, k5, k6, k7⟩ := p_keepsAct (G := G) hU hV.2.1
  have er : ∀ r, 1 ≤ r → r ≠ 53 → w1.1 r = w.1 r := fun r q1 q2 => k4 r (by omega) q2
  have epw : PW w.1 w1.1 := PW.of (fun r q1 q2 => er r q1 (by omega))
  have hlw : LwR own R h' X w.1 := by
    refine fun r hr => ?_
    obtain ⟨L, e1, e2, e3, e4, e5, e6⟩ := hR.2.2.2.1 r hr
    have f := fun a (q : a < L + 4) (q2 : L ≤ a) => a3 a (by omega)
    refine ⟨L, by rw [((a3 (X + 9) (by omega)).2.2 (by omega)).1]; exact e1, e2.hp (fun a q1 q2 => (f a q2 q1).1) ((f L (by omega) (by omega)).2.2 (by omega)).1, e3.hp (f (L + 1) (by omega) (by omega)).1 ((f (L + 1) (by omega) (by omega)).2.2 (by omega)).2, e4, by omega, e6⟩
  refine ⟨h', w1, a1, k1, a9.pw hSt.1 epw.p3, hSt.pw epw.p3, epw, er, by rw [(a3 X (by omega)).1]; exact hB.1.1, ((a3 X (by omega)).2.2 (by omega)).1, by rw [(a3 (X + 10) (by omega)).1]; exact hB.1.2.2.1, by rw [a6 2 (by decide)]; exact hV.2.2.1, ((a3 X (by omega)).2.2 (by omega)).2, hlw, ((a3 (X + 9) (by omega)).2.2 (by omega)).1, (a3 (X + 9) (by omega)).1, a2, ?_⟩
  intro h1 w2 hF hW hW1 hC1 hS2
  have noS : ∀ a, a < X + 122 → ¬ ((m_n h ≤ a ∧ a < m_n h + 5) ∨ (X + 122 ≤ a ∧ Scr X R h a)) := fun a q z => by omega
  have fx : ∀ a, a < X + 122 → m_i h1 a = m_i h' a ∧ m_l h1 a = m_l h' a := fun a q => hF.2.2.2 a (noS a q)
  have hD : FrD X R (fun _ => False) h h1 := by
    refine ⟨by rw [hF.2.2.1]; omega, fun a q1 q2 => ⟨by rw [hF.1]; exact (a3 a q2).1, fun _ => ⟨by rw [hF.2.1]; exact ((a3 a q2).2.2 (by omega)).1, fun ns => ?_⟩⟩⟩
    rw [(hF.2.2.2 a (fun z => z.elim (fun z => by omega) (fun z => ns z.2))).1]; exact ((a3 a q2).2.2 (by omega)).2
  have hX : FrX X h h1 := by
    refine ⟨fun a q1 q2 => by rw [hF.1]; exact (a3 a (by omega)).1, fun a q1 q2 _ q4 _ _ => by rw [hF.2.1]; exact ((a3 a (by omega)).2.2 q4).1, fun k hk => by rw [hF.2.1]; exact a4 k (by omega), fun k hk => by rw [hF.2.1, ((a3 (X + 34) (by omega)).2.2 (by omega)).1], fun a q1 q2 => by rw [(fx a (by omega)).1]; exact ((a3 a (by omega)).2.2 (by omega)).2, fun a q1 q2 => ?_⟩
    have z := a3 a (by omega)
    exact ⟨by rw [hF.1]; exact z.1, by rw [hF.2.1]; exact (z.2.2 (by omega)).1, by rw [(fx a (by omega)).1]; exact (z.2.2 (by omega)).2, by rw [(fx a (by omega)).2]; exact z.2.1⟩
  have ii : ∀ a, a < X + 122 → a ≠ X + 10 → m_i h1 a = m_i h a := fun a q1 q2 => by rw [(fx a q1).1]; exact ((a3 a (by omega)).2.2 q2).2
  have hst : stat w.1 w2.1 := by
    refine ⟨fun i hi => by rw [hW1 i (Or.inl hi), er 1 (by decide) (by decide)], fun i q1 q2 => by rw [hW1 i (Or.inr q1), er 1 (by decide) (by decide)], fun r hr i hi => ?_⟩
    rw [hW r (by omega) (by omega) (by omega) (by omega) (by omega) (by omega) (by omega) (by omega), er r (by omega) (by omega)]
  obtain ⟨own', hO⟩ := hR.act hcur' told hD hX (by rw [hF.2.2.1]; omega) (by rw [hF.2.1, ((a3 (X + 9) (by omega)).2.2 (by omega)).1]) (by rw [hF.2.1, ((a3 (X + 33) (by omega)).2.2 (by omega)).1]) (ii _ (by omega) (by omega)) (ii _ (by omega) (by omega)) (ii _ (by omega) (by omega)) (ii _ (by omega) (by omega)) (by rw [ii X (by omega) (by omega)]) (fun k hk => by rw [(fx (X + 10) (by omega)).1]; exact a6 k hk) (by rw [(fx (X + 10) (by omega)).1]; exact a7) (by rw [hF.2.1]; exact a5) (by rw [hF.2.1]; exact a8) hC1 hS2 (by rw [hW 0 (by decide) (by decide) (by decide) (by decide) (by decide) (by decide) (by decide) (by decide)]; exact k3 32 (by decide) (by decide) (by decide)) (by rw [hW 0 (by decide) (by decide) (by decide) (by decide) (by decide) (by decide) (by decide) (by decide)]; exact k3 36 (by decide) (by decide) (by decide)) (by rw [hW 0 (by decide) (by decide) (by decide) (by decide) (by decide) (by decide) (by decide) (by decide)]; exact k3 41 (by decide) (by decide) (by decide)) (by rw [hW 0 (by decide) (by decide) (by decide) (by decide) (by decide) (by decide) (by decide) (by decide)]; exact k2) hst (fun r q1 q2 q3 => by rw [hW r (by omega) (by omega) (by omega) (by omega) (by omega) (by omega) (by omega) q2]; exact er r (by omega) q3) (fun n hn => by rw [hW 53 (by decide) (by decide) (by decide) (by decide) (by decide) (by decide) (by decide) (by decide)]; exact k6 n hn) (fun j n hj hn => by rw [hW 53 (by decide) (by decide) (by decide) (by decide) (by decide) (by decide) (by decide) (by decide)]; exact k7 j n hj hn)
  exact ⟨⟨own', R, hO⟩, hX.kp hD.1⟩
theorem stay (hR : RelO own R h X w) (x : Int32) : ∃ r h' w', (some (x, h) : Option (Int32 × AH)) = some (r, h') ∧ (some (x, w) : Option (Int32 × MS)) = some (r, w') ∧ Rel h' X w' ∧ Kp X h h' := ⟨x, h, w, rfl, rfl, ⟨own, R, hR⟩, Kp.rf⟩
/-- the scalars of a state, changed -/
theorem Sta.sc {i : Nat} {x : Int32} (hS : Sta w.1) (hi : (i = 13 ∧ bd x 0 5) ∨ (i = 12 ∧ bd x 0 3)) : Sta (w_si w 1 i x).1 := by
  have er : ∀ r, r ≠ 1 → (w_si w 1 i x).1 r = w.1 r := fun r hr => w_si_r hr
  have e1 : ∀ j, j < 12 → (w_si w 1 i x).1 1 j = w.1 1 j := fun j hj => w_si_j (by omega)
  refine ⟨hS.1.r1 (fun r _ _ _ => er r (by omega)) (fun j hj => e1 j (by omega)) (by rw [e1 10 (by decide)]; exact st_mile hS.1) (by rw [e1 11 (by decide)]; exact st_warm hS.1) ?_ ?_, ?_, ?_⟩
  · rcases hi with ⟨rfl, hx⟩ | ⟨rfl, hx⟩
    · rw [w_si_s]; exact hx
    · rw [w_si_j (by decide)]; exact st_hole hS.1
  · intro k hk
    have := st_kv hS.1 hk
    unfold kv at this ⊢
    rw [er 2 (by decide)]
    rcases hi with ⟨rfl, hx⟩ | ⟨rfl, hx⟩
    · rw [w_si_j (by decide)]; exact this
    · rw [w_si_s]
      split
      · exact hx
      · rename_i q; rw [if_neg q] at this; exact this
  · have := hS.2.1
    unfold Ab sN at this ⊢
    rw [e1 6 (by decide), e1 10 (by decide), er 4 (by decide), er 5 (by decide), er 10 (by decide)]; exact this
  · have := hS.2.2
    unfold Cr sN at this ⊢
    rw [e1 6 (by decide), e1 10 (by decide), er 11 (by decide)]; exact this
theorem bd5 {x : Int32} (h : 0 ≤ x ∧ x ≤ 5) : bd x 0 5 := by
  have h1 := h.1; have h2 := h.2
  rw [I_le] at h1 h2
  exact ⟨h1, h2⟩
theorem bd3 {x : Int32} (h : 0 ≤ x ∧ x ≤ 3) : bd x 0 3 := by
  have h1 := h.1; have h2 := h.2
  rw [I_le] at h1 h2
  exact ⟨h1, h2⟩
theorem call_pull (x : Int32) : Call X (f_X11_pull G X x) (p_X12_pull G x) := by
  intro h w ⟨own, R, hR⟩
  obtain ⟨U, c, t, hc⟩ := hR.cur
  have hB := hc.1
  have hS := hc.2.1.1
  unfold f_X11_pull p_X12_pull
  rw [u_ck hB.1.1, hB.1.2.1, u_ob, u_ck hB.1.2.2.1, hB.1.2.2.2.1, u_ob, u_ck hB.1.2.2.2.2.1, u_nn, hB.2.2.1, c_hasTrain hB hS, u_cb, p_isTrain hS, u_cw]
  rcases told01 hS with q | q
  · rw [q, if_pos rfl, if_pos rfl]; exact stay hR _
  · rw [q, if_neg n10, if_neg n10, c_isHole, u_cb, p_in5, u_cw]
    by_cases h5 : 0 ≤ x ∧ x ≤ 5
    · rw [if_pos h5, if_neg n10, if_neg n10, u_ck ix_17_13, tn_13]
      by_cases hx : x = w.1 1 13
      · rw [if_pos hx, if_pos hx]; exact stay hR _
      · rw [if_neg hx, if_neg hx, u_ck hB.1.1, hB.1.2.1, u_ob, u_ck hB.1.2.2.1]
        obtain ⟨h', w1, a1, k1, hC', hS', epw, er, -, -, -, -, -, -, -, -, -, fin⟩ := act_both (G := G) hR hc q
        rw [a1, u_cb, u_ck (cab_t hC'), u_nn, k1, u_ob, u_ck ix_17_13, u_nn, u_ck ix_17_13, u_nn, er 1 (by decide) (by decide)]
        have hC2 : Cab (m_si h' (m_n h) 2 x) (m_n h) t (w_si w1 1 13 x).1 := by
          refine hC'.sc (st_N8 hS'.1) rfl rfl (fun a ha => m_i_sb ha) (fun r _ _ _ => w_si_r (by omega)) (fun i hi => w_si_j (by omega)) (by rw [m_i_ss, w_si_s]) (by rw [m_i_sj (by decide), w_si_j (by decide)]; exact cab_i3 hC') (by rw [m_i_sj (by decide), w_si_j (by decide)]; exact cab_i4 hC') ?_
          rw [m_i_sj (by decide)]
          have := cab_i5 hC'
          unfold KV kv at this ⊢
          rw [w_si_j (by decide), w_si_r (by decide)]; exact this
        obtain ⟨f1, f2⟩ := fin (m_si h' (m_n h) 2 x) (w_si w1 1 13 x) (Fr.si (Or.inl (by omega))) (fun r q1 _ _ _ _ _ _ _ => w_si_r q1) (fun i hi => w_si_j (by omega)) hC2 (hS'.sc (Or.inl ⟨rfl, bd5 h5⟩))
        exact ⟨_, _, _, rfl, rfl, f1, f2⟩
    · rw [if_neg h5, if_pos rfl, if_pos rfl]; exact stay hR _
theorem knobB (hB : Bs h X c t v) : (m_i h c 5 >>> (((2 : Int32) * 0) &&& 31)) &&& (3 : Int32) = v 1 12 := by
  obtain ⟨n, hn, hK, hkv⟩ := hB.2.2.2.2.2
  have h1 := ago_e (L := 0) hn (by decide)
  rw [nI_0] at h1
  rw [hK, h1]
  have h2 := hkv 0 (by decide)
  unfold kv at h2
  rw [if_pos rfl] at h2
  exact h2.symm
theorem with_e {n k : Nat} (hn : n < 16384) (hk : k < 4) : (nI n &&& (-4 : Int32)) ||| nI k = nI (4 * (n / 4) + k) := by
  have e1 : nI n &&& (-4 : Int32) = nI (4 * (n / 4)) := by
    show Int32.ofNat n &&& (-4 : Int32) = Int32.ofNat (4 * (n / 4))
    have : (-4 : Int32) = Int32.ofNat 4294967292 := rfl
    rw [this, ← Int32.toBitVec_inj, Int32.toBitVec_and, Int32.toBitVec_ofNat', Int32.toBitVec_ofNat', Int32.toBitVec_ofNat', ← BitVec.ofNat_and]
    congr 1
    have h1 : n = 4 * (n / 4) + n % 4 := by omega
    have h2 : n &&& 4294967292 = 4 * (n / 4) := by
      apply Nat.eq_of_testBit_eq
      intro i
      rw [Nat.testBit_and]
      have hm : (4294967292 : Nat).testBit i = (decide (2 ≤ i) && decide (i < 32)) := by
        by_cases hi : i < 32
        · revert hi; revert i; decide
        · have h3 : (4294967292 : Nat).testBit i = false := Nat.testBit_lt_two_pow (Nat.lt_of_lt_of_le (by decide : 4294967292 < 2 ^ 32) (Nat.pow_le_pow_right (by decide) (by omega)))
          rw [h3]; simp [hi]
      rw [hm, show 4 * (n / 4) = 2 ^ 2 * (n / 2 ^ 2) from rfl, Nat.testBit_two_pow_mul, Nat.testBit_div_two_pow]
      by_cases h2 : 2 ≤ i
      · have e : i - 2 + 2 = i := by omega
        simp only [h2, decide_true, Bool.true_and, ge_iff_le, e]
        by_cases hi : i < 32
        · simp [hi]
        · have : n.testBit i = false := Nat.testBit_lt_two_pow (Nat.lt_of_lt_of_le hn (Nat.le_trans (by decide : 16384 ≤ 2 ^ 32) (Nat.pow_le_pow_right (by decide) (by omega))))
          simp [this]
      · simp [h2]
    exact h2
  rw [e1, u_or]
  congr 1
  rw [show 4 * (n / 4) = 2 ^ 2 * (n / 4) from rfl, ← Nat.two_pow_add_eq_or_of_lt (show k < 2 ^ 2 by omega)]
theorem with_kv {n k : Nat} (hn : n < 16384) (hk : k < 4) : 4 * (n / 4) + k < 16384 ∧ (4 * (n / 4) + k) % 4 = k ∧ ∀ j, 1 ≤ j → (4 * (n / 4) + k) / 4 ^ j % 4 = n / 4 ^ j % 4 := by
  refine ⟨by omega, by omega, fun j hj => ?_⟩
  obtain ⟨i, rfl⟩ : ∃ i, j = i + 1 := ⟨j - 1, by omega⟩
  rw [Nat.pow_succ', ← Nat.div_div_eq_div_mul, ← Nat.div_div_eq_div_mul, show (4 * (n / 4) + k) / 4 = n / 4 by omega]
theorem call_turn (x : Int32) : Call X (f_X11_turn G X x) (p_X12_turn G x) := by
  intro h w ⟨own, R, hR⟩
  obtain ⟨U, c, t, hc⟩ := hR.cur
  have hB := hc.1
  have hS := hc.2.1.1
  have pin : ∀ w : MS, p_X12_in G x.toInt64 (0 : Int64) (3 : Int64) w = some (if 0 ≤ x ∧ x ≤ 3 then 1 else 0, w) := fun w => p_in_i G x 0 3 w
  unfold f_X11_turn p_X12_turn f_X11_knobAgo f_X11_withKnob
  rw [u_ck hB.1.1, hB.1.2.1, u_ob, u_ck hB.1.2.2.1, hB.1.2.2.2.1, u_ob, u_ck hB.1.2.2.2.2.1, u_cb, knobB hB, u_ck hB.1.1, c_hasTrain hB hS, u_cb, p_isTrain hS, u_cw]
  rcases told01 hS with q | q
  · rw [q, if_pos rfl, if_pos rfl]; exact stay hR _
  · rw [q, if_neg n10, if_neg n10, rng_le (N := 3) (N1 := 4) rfl, pin, u_cw]
    by_cases h5 : 0 ≤ x ∧ x ≤ 3
    · rw [if_pos h5, if_pos h5, if_neg n10, u_ck ix_17_12, tn_12]
      by_cases hx : x = w.1 1 12
      · rw [if_pos hx, if_pos hx]; exact stay hR _
      · rw [if_neg hx, if_neg hx, u_ck hB.1.1, hB.1.2.1, u_ob, u_ck hB.1.2.2.1]
        obtain ⟨h', w1, a1, k1, hC', hS', epw, er, -, -, -, -, -, -, -, -, -, fin⟩ := act_both (G := G) hR hc q
        rw [a1, u_cb, u_ck (cab_t hC'), u_cb, u_ck (cab_t hC'), u_nn, k1, u_ob, u_ck ix_17_12, u_nn, u_ck ix_17_12, u_nn, er 1 (by decide) (by decide)]
        obtain ⟨k, hk, rfl⟩ := bd_nI (b := 3) (bd3 h5)
        obtain ⟨n, hn, hK, hkv⟩ := cab_i5 hC'
        have hwk := with_kv hn (show k < 4 by omega)
        have hC2 : Cab (m_si h' (m_n h) 5 ((m_i h' (m_n h) 5 &&& (-4 : Int32)) ||| nI k)) (m_n h) t (w_si w1 1 12 (nI k)).1 := by
          refine hC'.sc (st_N8 hS'.1) rfl rfl (fun a ha => m_i_sb ha) (fun r _ _ _ => w_si_r (by omega)) (fun i hi => w_si_j (by omega)) (by rw [m_i_sj (by decide), w_si_j (by decide)]; exact cab_i2 hC') (by rw [m_i_sj (by decide), w_si_j (by decide)]; exact cab_i3 hC') (by rw [m_i_sj (by decide), w_si_j (by decide)]; exact cab_i4 hC') ?_
          rw [m_i_ss, hK, with_e hn (by omega)]
          refine ⟨_, hwk.1, rfl, fun j hj => ?_⟩
          have h2 := hkv j hj
          unfold kv at h2 ⊢
          by_cases hj0 : j = 0
          · rw [if_pos hj0, w_si_s, hj0, Nat.pow_zero, Nat.div_one, hwk.2.1]
          · rw [if_neg hj0] at h2 ⊢
            rw [w_si_r (by decide), h2, hwk.2.2 j (by omega)]
        obtain ⟨f1, f2⟩ := fin (m_si h' (m_n h) 5 ((m_i h' (m_n h) 5 &&& (-4 : Int32)) ||| nI k)) (w_si w1 1 12 (nI k)) (Fr.si (Or.inl (by omega))) (fun r q1 _ _ _ _ _ _ _ => w_si_r q1) (fun i hi => w_si_j (by omega)) hC2 (hS'.sc (Or.inr ⟨rfl, bd3 h5⟩))
        exact ⟨_, _, _, rfl, rfl, f1, f2⟩
    · rw [if_neg h5, if_neg h5, if_pos rfl]; exact stay hR _
/-- a lie, changed -/
theorem Sta.lie {q : Nat} {x : Int32} (hS : Sta w.1) (hx : bd x (-9) 9) : Sta (w_si w 8 q x).1 := by
  have er : ∀ r, r ≠ 8 → (w_si w 8 q x).1 r = w.1 r := fun r hr => w_si_r hr
  refine ⟨hS.1.dyn (fun r _ _ => er r (by omega)) (fun j hj => ?_) ?_, ?_, ?_⟩
  · have := hS.1.dy hj
    unfold Dy at this ⊢
    rw [er 9 (by decide), er 10 (by decide), er 11 (by decide)]
    refine ⟨?_, this.2⟩
    by_cases e : j = q
    · rw [e, w_si_s]; exact hx
    · rw [w_si_j e]; exact this.1
  · rw [er 9 (by decide)]
    exact fun a b q1 q2 q3 q4 => st_D hS.1 q1 q2 q3 q4
  · have := hS.2.1
    unfold Ab sN at this ⊢
    rw [er 1 (by decide), er 4 (by decide), er 5 (by decide), er 10 (by decide)]; exact this
  · have := hS.2.2
    unfold Cr sN at this ⊢
    rw [er 1 (by decide), er 11 (by decide)]; exact this
theorem rng_9 {α : Type} {x : Int32} {a b : α} : (if x < -9 then a else if x ≤ 9 then b else a) = if -9 ≤ x ∧ x ≤ 9 then b else a := by
  by_cases h1 : x < -9
  · rw [if_pos h1, if_neg (fun q => by have := q.1; rw [I_lt] at h1; rw [I_le] at this; omega)]
  · rw [if_neg h1]
    by_cases h2 : x ≤ 9
    · rw [if_pos h2, if_pos (by rw [I_lt] at h1; rw [I_le] at h2; rw [I_le, I_le]; omega)]
    · rw [if_neg h2, if_neg (fun q => h2 q.2)]
theorem call_say (x y : Int32) : Call X (f_X11_say G X x y) (p_X12_say G x y) := by
  intro h w ⟨own, R, hR⟩
  obtain ⟨U, c, t, hc⟩ := hR.cur
  have hB := hc.1
  have hS := hc.2.1.1
  have pin : ∀ w : MS, p_X12_in G y.toInt64 (-9 : Int64) (9 : Int64) w = some (if -9 ≤ y ∧ y ≤ 9 then 1 else 0, w) := fun w => p_in_i G y (-9) 9 w
  unfold f_X11_say p_X12_say
  rw [u_ck hB.1.1, hB.1.2.1, u_ob, u_ck hB.1.2.2.1, hB.1.2.2.2.1, u_ob, u_ck hB.1.2.2.2.2.1, hB.1.2.2.2.2.2.1, u_ob, u_ck hB.1.2.2.2.2.2.2, c_hasPersonB hB hS, u_cb, p_isPerson, u_cw, rng_9]
  by_cases h1 : 0 ≤ x ∧ x ≤ w.1 1 6 - 1
  · obtain ⟨q, hq, rfl⟩ := in_N' hS h1
    have told : w.1 1 0 = 1 := (told01 hS).resolve_left (fun e => by rw [told_N hS e] at hq; omega)
    have hC := (hc.2.2.1.cab told).1
    rw [if_pos h1, if_neg n10, if_neg n10, pin, u_cw]
    by_cases h9 : -9 ≤ y ∧ y ≤ 9
    · rw [if_pos h9, if_pos h9, if_neg n10, u_ck (cab_t hC), cab_9 hC, u_ob, u_ck (cab_x4 hC hS hq), u_nn, qc hS hq, cab_v4 hC hq, u_ck (q8 hS hq)]
      by_cases he : y = w.1 8 q
      · rw [if_pos he, if_pos he.symm]; exact stay hR _
      · rw [if_neg he, if_neg (fun e => he e.symm), u_ck hB.1.1, hB.1.2.1, u_ob, u_ck hB.1.2.2.1]
        obtain ⟨h', w1, a1, k1, hC', hS', epw, er, -, -, -, -, -, -, -, -, -, fin⟩ := act_both (G := G) hR hc told
        have hq' : q < sN w1.1 := by rw [pwN epw.p3]; exact hq
        rw [a1, u_cb, u_ck (cab_t hC'), cab_9 hC', u_ob, u_ck (cab_x4 hC' hS'.1 hq'), u_nn, k1, u_ob, u_ck (q8 hS hq), u_nn, u_ck (q8 hS hq), u_nn, er 8 (by decide) (by decide)]
        have b9 : bd y (-9) 9 := by
          have z1 := h9.1; have z2 := h9.2
          rw [I_le] at z1 z2; exact ⟨z1, z2⟩
        obtain ⟨f1, f2⟩ := fin (m_si h' (m_n h + 4) q y) (w_si w1 8 q y) (Fr.si (Or.inl (by omega))) (fun r _ _ q3 _ _ _ _ _ => w_si_r q3) (fun i hi => by rw [w_si_r (by decide)]) (hC'.si (st_N8 hS'.1) 8 4 q y (by decide)) (hS'.lie b9)
        exact ⟨_, _, _, rfl, rfl, f1, f2⟩
    · rw [if_neg h9, if_neg h9, if_pos rfl]; exact stay hR _
  · rw [if_neg h1, if_pos rfl, if_pos rfl]; exact stay hR _
/-- the law in force -/
theorem c_lawOf (hX : m_t h X = .inl 11) (h3 : m_r h X 3 = some (X + 9)) (h9 : m_t h (X + 9) = .inr (.object RX2, 6)) (h4 : m_i h X 4 = nI R) (hR6 : R ≤ 6) (hL : LwR own R h X v0) {x : Int32} (hx : x = -1 ∨ ∃ r, r < R ∧ x = nI r) : ∃ law, f_X11_lawOf G X x h = some (law, h) ∧ ((law = none ∧ x = -1) ∨ ∃ L r, law = some L ∧ x = nI r ∧ r < R ∧ m_r h (X + 9) r = some L) := by
  unfold f_X11_lawOf
  rw [u_ck hX, c_hasLaw hX h4 hR6, u_cb]
  rcases hx with rfl | ⟨r, hr, rfl⟩
  · rw [if_neg (show ¬ ((0 : Int32) ≤ -1 ∧ (-1 : Int32) ≤ nI R - 1) from fun q => absurd q.1 (by decide)), if_pos rfl]
    exact ⟨none, rfl, Or.inl ⟨rfl, rfl⟩⟩
  · obtain ⟨L, e1, -⟩ := hL r hr
    have hin : (0 : Int32) ≤ nI r ∧ nI r ≤ nI R - 1 := by
      refine ⟨nI_pos' (by omega), ?_⟩
      obtain ⟨m, rfl⟩ : ∃ m, R = m + 1 := ⟨R - 1, by omega⟩
      rw [nI_pred]; exact nI_le (by omega) (by omega)
    rw [if_pos hin, if_neg n10, u_ck hX, h3, u_ob, u_ck (ixb_e h9 (by omega) (by decide)), nI_clamp (by omega), e1]
    exact ⟨some L, rfl, Or.inr ⟨L, r, rfl, rfl, hr, e1⟩⟩
theorem c_milesLeft (hB : Bs h X c t v) : f_X11_milesLeft G X h = some (240 - v 1 10, h) := by
  unfold f_X11_milesLeft
  rw [u_ck hB.1.1, hB.1.2.1, u_ob, u_ck hB.1.2.2.1, hB.1.2.2.2.1, u_ob, u_ck hB.1.2.2.2.2.1, hB.2.2.2.2.1]
theorem p_milesLeft : p_X12_milesLeft G w = some (240 - w.1 1 10, w) := by
  unfold p_X12_milesLeft
  rw [u_ck ix_17_10, tn_10]
theorem left_i (hS : St v) : (240 - v 1 10).toInt = 240 - (v 1 10).toInt := by
  have h1 := st_mile hS
  have i2 : (240 : Int32).toInt = 240 := rfl
  rw [I_sub (by rw [i2]; have := h1.2; omega) (by rw [i2]; have := h1.1; omega), i2]
theorem call_mile : Call X (f_X11_mile G X) (p_X12_mile G) := by
  intro h w ⟨own, R, hR⟩
  obtain ⟨U, c, t, hc⟩ := hR.cur
  have hB := hc.1
  have hS := hc.2.1.1
  have hV := hc.2.2.2.1
  have hr := hR.2.2.1
  unfold f_X11_mile p_X12_mile
  rw [u_ck hB.1.1, c_hasTrain hB hS, u_cb, p_isTrain hS, u_cw]
  rcases told01 hS with q | q
  · rw [q, if_pos rfl, if_pos rfl]; exact stay hR _
  · rw [q, if_neg n10, if_neg n10, u_ck hB.1.1, c_milesLeft hB, u_cb, p_milesLeft, u_cw]
    by_cases h0 : 240 - w.1 1 10 = 0
    · rw [if_pos h0, if_pos h0]; exact stay hR _
    · rw [if_neg h0, if_neg h0, u_ck hB.1.1, hB.1.2.1, u_ob, u_ck hB.1.2.2.1]
      have hm : (w.1 1 10).toInt < 240 := by
        have e := left_i hS
        have i0 : (0 : Int32).toInt = 0 := rfl
        have : ¬ (240 - w.1 1 10).toInt = 0 := fun z => h0 (by rw [I_eq, z, i0])
        have := (st_mile hS).2
        omega
      obtain ⟨h', w1, a1, k1, hC', hS', epw, er, x1, x2, x3, x4, x5, x6, x7, x8, x9, fin⟩ := act_both (G := G) hR hc q
      obtain ⟨law, l1, l2⟩ := c_lawOf (G := G) x1 (by rw [x2]; exact hR.1.1.2.2.2.2.1) (by rw [x8]; exact hR.1.2.2.1.1) (by rw [x5]; exact hr.2.2.1) hr.1 x6 (x := w.1 1 16) hV.2.2.2.1
      have e16 : w1.1 1 16 = w.1 1 16 := by rw [er 1 (by decide) (by decide)]
      have hlaw : LawOk h' (m_n h) t w1.1 law := by
        rcases l2 with ⟨z1, z2⟩ | ⟨L, r, z1, z2, z3, z4⟩
        · exact Or.inl ⟨z1, by rw [e16]; exact z2⟩
        · obtain ⟨L', y1, y2, y3, y4, y5, y6⟩ := x6 r z3
          rw [z4] at y1; cases y1
          obtain ⟨-, v1, v2, v3, v4, v5, v6⟩ := hR.2.2.2.1 r z3
          obtain ⟨L2, u1, u2, u3, u4, u5, u6⟩ := hR.2.2.2.1 r z3
          rw [x7, u1] at z4; cases z4
          have hCa := (hc.2.2.1.cab q).2
          refine Or.inr ⟨L, r, z1, by rw [e16]; exact z2, by omega, y2, y3.cg (fun k q1 q2 => er k (by omega) (by omega)), Or.inl (by omega), ?_⟩
          have hC := (hc.2.2.1.cab q).1
          by_cases q1 : L + 4 ≤ t
          · exact Or.inl q1
          · by_cases q2 : t + 15 ≤ L
            · exact Or.inr q2
            · exfalso
              have hx : ∃ a, L ≤ a ∧ a < L + 4 ∧ t ≤ a ∧ a < t + 15 := by
                by_cases z : L ≤ t
                · exact ⟨t, by omega, by omega, by omega, by omega⟩
                · exact ⟨L, by omega, by omega, by omega, by omega⟩
              obtain ⟨a, b1, b2, b3, b4⟩ := hx
              have d1 := u6 a b1 b2
              have d2 := hCa.2.2.2.2.2 a b3 b4
              have d3 := u2.1
              have d4 := tr_t hC
              rw [← d1, d2, d4] at d3
              exact absurd d3 (by decide)
      obtain ⟨h2, w2, y, g1, g2, g3, g4, g5, g6, g7, g8, g9, g10, -, -⟩ := go_both (G := G) hC' hS'.1 hS'.2.1 hS'.2.2 (by rw [pw1 epw (by decide)]; exact hm) hlaw
      rw [a1, u_cb, u_ck x1, x2, hB.1.2.1, u_ob, u_ck x3, x4, l1, u_cb, u_ck (cab_t hC'), g1, u_cb, k1, u_ob, g2, u_cw]
      obtain ⟨f1, f2⟩ := fin h2 w2 (g8.wk (fun a ha => by
        rcases ha with ha | ⟨L, e1, ha⟩
        · exact Or.inl ha
        · rcases l2 with ⟨z1, -⟩ | ⟨L2, r, z1, z2, z3, z4⟩
          · rw [z1] at e1; cases e1
          · rw [z1] at e1; cases e1
            obtain ⟨L3, y1, y2, y3, y4, y5, y6⟩ := x6 r z3
            rw [z4] at y1; cases y1
            exact Or.inr ⟨by unfold LSc at ha; omega, Or.inr ⟨r, L, z3, by rw [← x7]; exact z4, ha⟩⟩)) (fun r q1 q2 q3 q4 q5 q6 q7 q8 => g9 r (by unfold MRw; omega)) (fun i hi => g10 i (by omega) (by omega) (by omega)) g3 ⟨g4, g5, g6⟩
      exact ⟨_, _, _, rfl, rfl, f1, f2⟩
end
