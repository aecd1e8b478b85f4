/-! PURE 99a: who sits where: the reference finds the least and follows it. -/
section
variable {G : GG} {own : Nat → Nat} {R X c t U : Nat} {h h1 h2 h' : AH} {w w' w1 w2 w3 x x1 x2 x' : MS} {v v' : VV}
theorem two8 {n : Nat} (hn : n ≤ 8) : 2 ^ n ≤ 256 := show 2 ^ n ≤ 2 ^ 8 from Nat.pow_le_pow_right (by decide) hn
theorem pcT (hS : St v) {T : Nat} (hT : T < 2 ^ nSt v) : pc T ≤ nSt v := by
  have h8 := nSt_8 hS
  unfold pc
  have := rowC_app T.testBit (N := nSt v) (8 - nSt v) (fun s hs => Nat.testBit_lt_two_pow (Nat.lt_of_lt_of_le hT (Nat.pow_le_pow_right (by decide) hs)))
  rw [show nSt v + (8 - nSt v) = 8 by omega] at this
  rw [this]; exact rowC_le _ _
theorem fill_in (hS : St w.1) (hF : SeF w w') (hR : SiR w.1 w') {b T : Nat} (hb : b < 6) (hT : T < 2 ^ nSt w.1) (hp : pc T < nSt w.1) (hl : ∀ j, j < nSt w.1 → T.testBit j = false → w'.1 60 (T ||| 2 ^ j) = nI (er (WP w.1 b (T ||| 2 ^ j)))) (K : Int32 → MS → Option MS) : ∀ (d j n : Nat) (a : Option Nat), j + d = nSt w.1 → d < n → small a 100000 → lw2 (P_X12_fillsCosts_42 G (nI b) (nI T) (nI (pc T)) K) n (nI (er a)) (nI j) w' = K (nI (er (fs (fun j a => if T.testBit j then a else stp a (coV w.1 b (pc T) (enu (occ w.1) 8 j)) (WP w.1 b (T ||| 2 ^ j))) d j a))) w'
  | 0, j, n + 1, a, e, _, ha => by
    have h8 := nSt_8 hS
    show P_X12_fillsCosts_42 G (nI b) (nI T) (nI (pc T)) K _ _ _ _ = _
    rw [P_X12_fillsCosts_42, hR.1, if_pos (nI_le (by omega) (by omega))]; rfl
  | d + 1, j, n + 1, a, e, hn, ha => by
    have h8 := nSt_8 hS
    have h2 := two8 h8
    have hw := WV_small hS b (phi (occ w.1) (T ||| 2 ^ j))
    have hc := coV_small w.1 b (pc T) (enu (occ w.1) 8 j)
    have ih := fill_in hS hF hR hb hT hp hl K d (j + 1) n
    show P_X12_fillsCosts_42 G (nI b) (nI T) (nI (pc T)) K _ _ _ _ = K (nI (er (fs _ d (j + 1) (if T.testBit j then a else stp a (coV w.1 b (pc T) (enu (occ w.1) 8 j)) (WP w.1 b (T ||| 2 ^ j)))))) w'
    rw [P_X12_fillsCosts_42, hR.1, if_neg (nI_ge (by omega) (by omega)), if_neg (nI_ge hp (by omega)), p_has2 (by omega) (by omega), u_cw, u_nn]
    by_cases z : T.testBit j = true
    · rw [if_pos z, if_pos z, if_neg n10]
      dsimp only; rw [u_nn, nI_1]
      exact ih a (by omega) (by omega) ha
    · have z' : T.testBit j = false := by simpa using z
      have ho : T ||| 2 ^ j < 256 := or_lt (by omega) (by omega)
      have b1 := er_lt (o := WP w.1 b (T ||| 2 ^ j)) hw (by decide)
      have b2 := er_lt hc (by decide)
      have b3 := er_lt ha (by decide)
      have em := er_stp ha hc (r := WP w.1 b (T ||| 2 ^ j)) hw
      rw [if_neg z, if_neg z, if_pos rfl, p_costAt hS hF hR hb hp (by omega), u_cw, or_e (by omega), u_ck (u_ixn ho (by decide)), u_nn, nI_clamp (by omega), hl j (by omega) z', u_nn, u_nn]
      have i9 : (1000000000 : Int32) = nI 1000000000 := rfl
      have fin := ih (stp a (coV w.1 b (pc T) (enu (occ w.1) 8 j)) (WP w.1 b (T ||| 2 ^ j))) (by omega) (by omega) (stp_small ha hc hw (by decide))
      rw [← em] at fin
      by_cases g1 : 1000000000 ≤ er (coV w.1 b (pc T) (enu (occ w.1) 8 j))
      · rw [if_pos g1] at fin
        rw [if_pos (show (1000000000 : Int32) ≤ _ from nI_le g1 (by omega))]
        dsimp only; rw [u_nn, nI_1]; exact fin
      · rw [if_neg g1] at fin
        rw [if_neg (show ¬ (1000000000 : Int32) ≤ _ from nI_ge (b := 1000000000) (by omega) (by omega))]
        by_cases g2 : 1000000000 ≤ er (WP w.1 b (T ||| 2 ^ j))
        · rw [if_pos g2] at fin
          rw [if_pos (show (1000000000 : Int32) ≤ _ from nI_le g2 (by omega))]
          dsimp only; rw [u_nn, nI_1]; exact fin
        · rw [if_neg g2] at fin
          rw [if_neg (show ¬ (1000000000 : Int32) ≤ _ from nI_ge (b := 1000000000) (by omega) (by omega)), nI_add]
          by_cases g3 : er a ≤ er (coV w.1 b (pc T) (enu (occ w.1) 8 j)) + er (WP w.1 b (T ||| 2 ^ j))
          · rw [if_pos g3] at fin
            rw [if_pos (nI_le g3 (by omega))]
            dsimp only; rw [u_nn, nI_1]; exact fin
          · rw [if_neg g3] at fin
            rw [if_neg (nI_ge (by omega) (by omega))]
            dsimp only; rw [u_nn, nI_1]; exact fin
theorem WP_n (hS : St v) {b T : Nat} (hT : T < 2 ^ nSt v) (hp : ¬ pc T < nSt v) : WP v b T = some 0 := by
  have hT' : T < 2 ^ rowC (occ v) 8 := by rw [occ_cnt hS]; exact hT
  exact Wt_full (by rw [phi_pc (occ v) hT']; omega)
theorem bit_up {T j n : Nat} (hT : T < 2 ^ n) (hj : j < n) : T ||| 2 ^ j < 2 ^ n := Nat.or_lt_two_pow hT (Nat.pow_lt_pow_right (by decide) hj)
theorem fill_loop (hS : St w.1) {b : Nat} (hb : b < 6) : ∀ (k n : Nat) (w' : MS), k ≤ 2 ^ nSt w.1 → k < n → SeF w w' → SiR w.1 w' → (∀ T, k ≤ T → T < 2 ^ nSt w.1 → w'.1 60 T = nI (er (WP w.1 b T))) → ∃ w2, Fw (fun r => r = 60) w' w2 ∧ (∀ T, T < 2 ^ nSt w.1 → w2.1 60 T = nI (er (WP w.1 b T))) ∧ lw1 (P_X12_fillsCosts_11 G (nI b)) n (nI k - 1) w' = some w2
  | 0, n + 1, w', _, _, hF, hR, h1 => by
    refine ⟨w', Fw.rf, fun T hT => h1 T (Nat.zero_le _) hT, ?_⟩
    show P_X12_fillsCosts_11 G (nI b) _ _ _ = _
    rw [P_X12_fillsCosts_11, if_pos (by decide)]
  | k + 1, n + 1, w', hk, hn, hF, hR, h1 => by
    have h8 := nSt_8 hS
    have h2 := two8 h8
    have hpc := pcT hS (T := k) (by omega)
    have e1 : nI (k + 1) - 1 = nI k := nI_pred k
    have e2 : nI k + -1 = nI k - 1 := by rw [Int32.sub_eq_add_neg]
    have hF1 : Fw (fun r => r = 60) w' (w_si w' 60 k (nI (er (WP w.1 b k)))) := Fw.s1
    obtain ⟨w2, a1, a2, a3⟩ := fill_loop hS hb k n (w_si w' 60 k (nI (er (WP w.1 b k)))) (by omega) (by omega) (hF.tr (SeF.si (by omega))) (by
      unfold SiR at hR ⊢
      rw [hF1 0 (by decide), hF1 58 (by decide), hF1 59 (by decide)]; exact hR) (fun T q1 q2 => by
      by_cases y : T = k
      · subst y; rw [w_si_s]
      · rw [w_si_j y]; exact h1 T (by omega) q2)
    refine ⟨w2, hF1.tr a1, a2, ?_⟩
    show P_X12_fillsCosts_11 G (nI b) _ _ _ = _
    rw [P_X12_fillsCosts_11, e1, if_neg (nI_pos (by omega)), p_bits (by omega), u_cw, u_nn, hR.1]
    by_cases z : pc k < nSt w.1
    · rw [if_neg (fun q => by have := (nI_eq (by omega) (by omega)).mp q; omega)]
      dsimp only
      have fi := fun K => fill_in (G := G) hS hF hR hb (T := k) (by omega) z (fun j hj hj2 => h1 _ (or_up hj2) (bit_up (by omega) hj)) K (nSt w.1) 0 bN none (Nat.zero_add _) (bN_gt (by omega)) (fun m hm => by cases hm)
      rw [← WP_step hS (by omega) z] at fi
      refine (fi _).trans ?_
      rw [u_ck (u_ixn (by omega) (by decide)), u_nn, nI_clamp (by omega), u_nn, e2]
      exact a3
    · have ep : pc k = nSt w.1 := by omega
      rw [if_pos (by rw [ep])]
      dsimp only
      have st : ∀ (m : Nat) (K : Int32 → MS → Option MS), 0 < m → lw2 (P_X12_fillsCosts_42 G (nI b) (nI k) (nI (pc k)) K) m 0 0 w' = K 0 w' := fun m K hm => by
        obtain ⟨m, rfl⟩ : ∃ j, m = j + 1 := ⟨m - 1, by omega⟩
        show P_X12_fillsCosts_42 G (nI b) (nI k) (nI (pc k)) K _ _ _ _ = _
        rw [P_X12_fillsCosts_42, hR.1, ep, if_pos (show nI (nSt w.1) ≤ nI (nSt w.1) from nI_le (Nat.le_refl _) (by omega)), ite_self]
      refine (st bN _ (bN_gt (by decide))).trans ?_
      have e0 : (0 : Int32) = nI (er (WP w.1 b k)) := by rw [WP_n hS (by omega) z]; rfl
      rw [u_ck (u_ixn (by omega) (by decide)), u_nn, nI_clamp (by omega), u_nn, e2, e0]
      exact a3
theorem p_fillsCosts (hS : St w.1) {b : Nat} (hb : b < 6) (hF : SeF w w') (hR : SiR w.1 w') : ∃ w2, Fw (fun r => r = 60) w' w2 ∧ (∀ T, T < 2 ^ nSt w.1 → w2.1 60 T = nI (er (WP w.1 b T))) ∧ p_X12_fillsCosts G (nI b) w' = some w2 := by
  have h8 := nSt_8 hS
  have h2 := two8 h8
  obtain ⟨w2, a1, a2, a3⟩ := fill_loop (G := G) hS hb (2 ^ nSt w.1) bN w' (Nat.le_refl _) (bN_gt (by omega)) hF hR (fun T q1 q2 => by omega)
  refine ⟨w2, a1, a2, ?_⟩
  unfold p_X12_fillsCosts
  rw [hR.1, sh24 _ (by omega), u_nn]
  exact a3
/-- rows of indices along the way -/
def tsV (v : VV) (b : Nat) : Nat → Nat
  | 0 => 0
  | k + 1 => tsV v b k ||| 2 ^ rowC (occ v) (bsV v b (psV v b k))
theorem ts_ok (hS : St v) {b m : Nat} (h0 : WV v b 0 = some m) : ∀ k, k ≤ nSt v → tsV v b k < 2 ^ nSt v ∧ phi (occ v) (tsV v b k) = psV v b k
  | 0, _ => ⟨Nat.two_pow_pos _, phi_0 _⟩
  | k + 1, hk => by
    obtain ⟨i1, i2⟩ := ts_ok hS h0 k (by omega)
    obtain ⟨j1, j2, ⟨m', j3⟩, j4⟩ := ps_ok hS h0 k (by omega)
    obtain ⟨s, -, b2, b3, b4, -⟩ := bs_ok hS (b := b) (S := psV v b k) (by omega) j3
    have hlt : rowC (occ v) s < nSt v := by rw [← occ_cnt hS]; exact rowC_lt _ b3 b4
    refine ⟨?_, ?_⟩
    · show tsV v b k ||| 2 ^ rowC (occ v) (bsV v b (psV v b k)) < _
      rw [b2]; exact bit_up i1 hlt
    · show phi (occ v) (tsV v b k ||| 2 ^ rowC (occ v) (bsV v b (psV v b k))) = psV v b k ||| 2 ^ bsV v b (psV v b k)
      rw [b2, phi_or _ _ b3 b4, i2]
theorem er_met {c r : Option Nat} {m : Nat} : (¬ 1000000000 ≤ er c ∧ ¬ 1000000000 ≤ er r ∧ er c + er r = m) → small c 10000 → small r 80000 → stp none c r = some m := by
  intro ⟨h1, h2, h3⟩ _ _
  unfold stp
  cases c with
  | none => exact absurd (Nat.le_refl _) h1
  | some p =>
    cases r with
    | none => exact absurd (Nat.le_refl _) h2
    | some q => exact congrArg some h3
theorem er_met' {c r : Option Nat} {m : Nat} (h : stp none c r = some m) (hc : small c 10000) (hr : small r 80000) : ¬ 1000000000 ≤ er c ∧ ¬ 1000000000 ≤ er r ∧ er c + er r = m := by
  unfold stp at h
  cases c with
  | none => cases h
  | some p =>
    cases r with
    | none => cases h
    | some q =>
      have := hc p rfl
      have := hr q rfl
      have h' : p + q = m := Option.some.inj h
      exact ⟨by show ¬ 1000000000 ≤ p; omega, by show ¬ 1000000000 ≤ q; omega, h'⟩
/-- one who sits finds the first best seat -/
theorem find_loop (hS : St w.1) (hF : SeF w w') (hR : SiR w.1 w') {b m k : Nat} (hb : b < 6) (h0 : WV w.1 b 0 = some m) (hk : k < nSt w.1) (hl : ∀ T, T < 2 ^ nSt w.1 → w'.1 60 T = nI (er (WP w.1 b T))) (K : Int32 → MS → Option MS) : ∀ (d j n : Nat), j + d = rowC (occ w.1) (bsV w.1 b (psV w.1 b k)) → d + 1 < n → lw3 (P_X12_followsCosts_18 G (nI b) (nI k) K) n (nI (tsV w.1 b k)) 0 (nI j) w' = K (nI (tsV w.1 b (k + 1))) (w_si w' 61 k (nI (bsV w.1 b (psV w.1 b k)))) := by
  have h8 := nSt_8 hS
  have h2 := two8 h8
  obtain ⟨i1, i2⟩ := ts_ok hS h0 k (by omega)
  obtain ⟨j1, j2, ⟨m', j3⟩, j4⟩ := ps_ok hS h0 k (by omega)
  obtain ⟨s, -, b2, b3, b4, b5, b6, -, b8⟩ := bs_ok hS (b := b) (S := psV w.1 b k) (by omega) j3
  have hlt : rowC (occ w.1) s < nSt w.1 := by rw [← occ_cnt hS]; exact rowC_lt _ b3 b4
  have hm' := WV_small hS b _ m' j3
  have ew : WP w.1 b (tsV w.1 b k) = some m' := by unfold WP; rw [i2]; exact j3
  have epc : pc (tsV w.1 b k) = k := by
    have := phi_pc (occ w.1) (T := tsV w.1 b k) (by rw [occ_cnt hS]; exact i1)
    rw [i2, j2] at this; exact this.symm
  have ets : tsV w.1 b (k + 1) = tsV w.1 b k ||| 2 ^ rowC (occ w.1) s := by rw [← b2]; rfl
  rw [b2]
  -- the cost at an index
  have hone : ∀ j, j < nSt w.1 → WP w.1 b (tsV w.1 b k ||| 2 ^ j) = WV w.1 b (psV w.1 b k ||| 2 ^ enu (occ w.1) 8 j) ∧ (psV w.1 b k).testBit (enu (occ w.1) 8 j) = (tsV w.1 b k).testBit j := fun j hj => by
    obtain ⟨q1, q2, q3⟩ := enu_ok (occ w.1) (N := 8) (k := j) (by rw [occ_cnt hS]; exact hj)
    have := phi_or (occ w.1) (tsV w.1 b k) q1 q2
    rw [q3] at this
    refine ⟨by unfold WP; rw [this, i2], ?_⟩
    rw [← i2, phi_bit _ _ q1, q2, q3, Bool.true_and]
  -- one step
  have step : ∀ (j n : Nat), j < nSt w.1 → lw3 (P_X12_followsCosts_18 G (nI b) (nI k) K) (n + 1) (nI (tsV w.1 b k)) 0 (nI j) w' = if bsP w.1 b (psV w.1 b k) (enu (occ w.1) 8 j) then lw3 (P_X12_followsCosts_18 G (nI b) (nI k) K) n (nI (tsV w.1 b k ||| 2 ^ j)) 1 (nI (j + 1)) (w_si w' 61 k (nI (enu (occ w.1) 8 j))) else lw3 (P_X12_followsCosts_18 G (nI b) (nI k) K) n (nI (tsV w.1 b k)) 0 (nI (j + 1)) w' := fun j n hj => by
    obtain ⟨q1, q2, q3⟩ := enu_ok (occ w.1) (N := 8) (k := j) (by rw [occ_cnt hS]; exact hj)
    obtain ⟨o1, o2⟩ := hone j hj
    have ho : tsV w.1 b k ||| 2 ^ j < 256 := or_lt (by omega) (by omega)
    have ho2 := bit_up i1 hj
    have hw := WV_small hS b (psV w.1 b k ||| 2 ^ enu (occ w.1) 8 j)
    have hc := coV_small w.1 b k (enu (occ w.1) 8 j)
    have v1 := er_lt hw (by decide)
    have v2 := er_lt hc (by decide)
    show P_X12_followsCosts_18 G (nI b) (nI k) K _ _ _ _ _ = _
    rw [P_X12_followsCosts_18, hR.1, if_neg (nI_ge hj (by omega)), if_pos rfl, p_has2 (by omega) (by omega), u_cw, u_nn]
    by_cases z : (tsV w.1 b k).testBit j = true
    · have hp : bsP w.1 b (psV w.1 b k) (enu (occ w.1) 8 j) = false := by unfold bsP; rw [o2, z, q2]; rfl
      rw [if_pos z, if_neg n10, hp]
      dsimp only
      rw [u_nn, if_pos (show (1000000000 : Int32) ≤ 1000000000 from I_ler)]
      dsimp only
      rw [u_nn, nI_1]; rfl
    · have z' : (tsV w.1 b k).testBit j = false := by simpa using z
      have eb : bsP w.1 b (psV w.1 b k) (enu (occ w.1) 8 j) = decide (stp none (coV w.1 b k (enu (occ w.1) 8 j)) (WV w.1 b (psV w.1 b k ||| 2 ^ enu (occ w.1) 8 j)) = some m') := by
        unfold bsP; rw [o2, z', q2, j2, j3]; rfl
      have c60 : w'.1 60 (tsV w.1 b k ||| 2 ^ j) = nI (er (WV w.1 b (psV w.1 b k ||| 2 ^ enu (occ w.1) 8 j))) := by rw [hl _ ho2, o1]
      have c61 : w'.1 60 (tsV w.1 b k) = nI m' := by rw [hl _ i1, ew]; rfl
      rw [if_neg z, if_pos rfl, p_costAt hS hF hR hb hk hj, u_cw]
      dsimp only
      rw [u_nn]
      by_cases g1 : 1000000000 ≤ er (coV w.1 b k (enu (occ w.1) 8 j))
      · have hp : ¬ bsP w.1 b (psV w.1 b k) (enu (occ w.1) 8 j) = true := fun q => by
          rw [eb] at q
          exact (er_met' (of_decide_eq_true q) hc hw).1 g1
        rw [if_neg hp, if_pos (show (1000000000 : Int32) ≤ _ from nI_le g1 (by omega))]
        dsimp only; rw [u_nn, nI_1]
      · rw [if_neg (show ¬ (1000000000 : Int32) ≤ nI (er (coV w.1 b k (enu (occ w.1) 8 j))) from nI_ge (b := 1000000000) (by omega) (by omega)), or_e (by omega), u_ck (u_ixn ho (by decide)), nI_clamp (show tsV w.1 b k ||| 2 ^ j < 2 ^ 31 by omega), c60]
        by_cases g2 : 1000000000 ≤ er (WV w.1 b (psV w.1 b k ||| 2 ^ enu (occ w.1) 8 j))
        · have hp : ¬ bsP w.1 b (psV w.1 b k) (enu (occ w.1) 8 j) = true := fun q => by
            rw [eb] at q
            exact (er_met' (of_decide_eq_true q) hc hw).2.1 g2
          rw [if_neg hp, if_pos (show (1000000000 : Int32) ≤ _ from nI_le g2 (by omega))]
          dsimp only; rw [u_nn, nI_1]
        · rw [if_neg (show ¬ (1000000000 : Int32) ≤ nI (er (WV w.1 b (psV w.1 b k ||| 2 ^ enu (occ w.1) 8 j))) from nI_ge (b := 1000000000) (by omega) (by omega)), u_ck (u_ixn ho (by decide)), u_ck (u_ixn (show tsV w.1 b k < 256 by omega) (by decide)), nI_clamp (show tsV w.1 b k < 2 ^ 31 by omega), c61, nI_add]
          by_cases g3 : er (coV w.1 b k (enu (occ w.1) 8 j)) + er (WV w.1 b (psV w.1 b k ||| 2 ^ enu (occ w.1) 8 j)) = m'
          · have hp : bsP w.1 b (psV w.1 b k) (enu (occ w.1) 8 j) = true := by
              rw [eb]; exact decide_eq_true (er_met ⟨g1, g2, g3⟩ hc hw)
            rw [if_pos hp, if_pos (by rw [g3]), u_ck (u_ixn (show j < 8 by omega) (by decide)), u_ck (u_ixn (show k < 8 by omega) (by decide)), u_nn, nI_clamp (show k < 2 ^ 31 by omega), nI_clamp (show j < 2 ^ 31 by omega), hR.2.2 j hj, u_nn]
            dsimp only; rw [u_nn, nI_1]
          · have hp : ¬ bsP w.1 b (psV w.1 b k) (enu (occ w.1) 8 j) = true := fun q => by
              rw [eb] at q
              exact g3 (er_met' (of_decide_eq_true q) hc hw).2.2
            rw [if_neg hp, if_neg (fun q => g3 ((nI_eq (by omega) (by omega)).mp q))]
            dsimp only; rw [u_nn, nI_1]
  intro d
  induction d with
  | zero =>
    intro j n e hn
    have ej : j = rowC (occ w.1) s := by omega
    obtain ⟨n, rfl⟩ : ∃ q, n = q + 2 := ⟨n - 2, by omega⟩
    have eu : enu (occ w.1) 8 j = s := by rw [ej]; exact enu_at _ b3 b4
    have hp : bsP w.1 b (psV w.1 b k) s = true := by
      unfold bsP
      rw [b4, b5, b6, j3]; simp
    rw [step j (n + 1) (by omega), eu, if_pos hp]
    show P_X12_followsCosts_18 G (nI b) (nI k) K _ _ _ _ _ = _
    rw [P_X12_followsCosts_18, if_neg (show ¬ (1 : Int32) = 0 by decide), ite_self, ets, ← ej]
  | succ d ih =>
    intro j n e hn
    obtain ⟨n, rfl⟩ : ∃ q, n = q + 1 := ⟨n - 1, by omega⟩
    obtain ⟨q1, q2, q3⟩ := enu_ok (occ w.1) (N := 8) (k := j) (by rw [occ_cnt hS]; omega)
    have hlt2 : enu (occ w.1) 8 j < s := by
      rcases Nat.lt_or_ge (enu (occ w.1) 8 j) s with z | z
      · exact z
      · have h3 : rowC (occ w.1) s ≤ rowC (occ w.1) (enu (occ w.1) 8 j) := by
          have := rowC_mono (occ w.1) (k := s) (d := enu (occ w.1) 8 j - s)
          rw [show s + (enu (occ w.1) 8 j - s) = enu (occ w.1) 8 j by omega] at this
          exact this
        omega
    rw [step j n (by omega), if_neg (by rw [b8 _ hlt2]; decide)]
    exact ih (j + 1) n (by omega) (by omega)
theorem follow_all (hS : St w.1) {b m : Nat} (hb : b < 6) (h0 : WV w.1 b 0 = some m) : ∀ (d k n : Nat) (w' : MS), k + d = nSt w.1 → d < n → SeF w w' → SiR w.1 w' → (∀ T, T < 2 ^ nSt w.1 → w'.1 60 T = nI (er (WP w.1 b T))) → (∀ i, i < k → w'.1 61 i = nI (bsV w.1 b (psV w.1 b i))) → ∃ w2, Fw (fun r => r = 61) w' w2 ∧ (∀ i, i < nSt w.1 → w2.1 61 i = nI (bsV w.1 b (psV w.1 b i))) ∧ lw2 (P_X12_followsCosts_4 G (nI b)) n (nI (tsV w.1 b k)) (nI k) w' = some w2
  | 0, k, n + 1, w', e, _, hF, hR, hl, hi => by
    have h8 := nSt_8 hS
    refine ⟨w', Fw.rf, fun i h => hi i (by omega), ?_⟩
    show P_X12_followsCosts_4 G (nI b) _ _ _ _ = _
    rw [P_X12_followsCosts_4, hR.1, if_pos (nI_le (by omega) (by omega))]
  | d + 1, k, n + 1, w', e, hn, hF, hR, hl, hi => by
    have h8 := nSt_8 hS
    have hF1 : Fw (fun r => r = 61) w' (w_si w' 61 k (nI (bsV w.1 b (psV w.1 b k)))) := Fw.s1
    obtain ⟨j1, j2, ⟨m', j3⟩, j4⟩ := ps_ok hS h0 k (by omega)
    obtain ⟨s, -, b2, b3, -⟩ := bs_ok hS (b := b) (S := psV w.1 b k) (by omega) j3
    have hle : rowC (occ w.1) (bsV w.1 b (psV w.1 b k)) ≤ 8 := by
      have : rowC (occ w.1) (bsV w.1 b (psV w.1 b k)) ≤ _ := rowC_le _ _
      omega
    have fl := fun K => find_loop (G := G) hS hF hR hb h0 (k := k) (by omega) hl K (rowC (occ w.1) (bsV w.1 b (psV w.1 b k))) 0 bN (Nat.zero_add _) (by have := bN_gt (d := 100) (by decide); omega)
    obtain ⟨w2, a1, a2, a3⟩ := follow_all hS hb h0 d (k + 1) n (w_si w' 61 k (nI (bsV w.1 b (psV w.1 b k)))) (by omega) (by omega) (hF.tr (SeF.si (by omega))) (by
      unfold SiR at hR ⊢
      rw [hF1 0 (by decide), hF1 58 (by decide), hF1 59 (by decide)]; exact hR) (fun T hT => by rw [hF1 60 (by decide)]; exact hl T hT) (fun i h => by
      by_cases z : i = k
      · subst z; rw [w_si_s]
      · rw [w_si_j z]; exact hi i (by omega))
    refine ⟨w2, hF1.tr a1, a2, ?_⟩
    show P_X12_followsCosts_4 G (nI b) _ _ _ _ = _
    rw [P_X12_followsCosts_4, hR.1, if_neg (nI_ge (by omega) (by omega))]
    refine (fl _).trans ?_
    rw [u_nn, nI_1]; exact a3
end
