/-! PURE 66: getting out and in, in step; a mile. -/
section
variable {G : GG} {c t : Nat} {h : AH} {w : MS}
/-- the loops of getting out and in: A and B are the miles at which those with a lower number than k, and the others, are looked at -/
def OI (c t : Nat) (h : AH) (w : MS) (ia ib oa ob' : Int) (k : Nat) (h' : AH) (w' : MS) : Prop :=
  Cab h' c t w'.1 ∧ St w'.1 ∧ Fr (fun a => a = c + 1) h h' ∧ Fw (fun k => k = 9 ∨ k = 10) w w' ∧ w'.2 = w.2 ∧
  ∀ q, q < sN w.1 → w'.1 10 q = if (w.1 4 q).toInt ≤ (if q < k then ia else ib) ∧ (if q < k then oa else ob') < (w.1 5 q).toInt then 1 else 0
theorem out_step {M : Int} (hM : (w.1 1 10).toInt = M + 1) {k : Nat} (hk : k < sN w.1) {h' : AH} {w' : MS} (hI : OI c t h w M M (M + 1) M k h' w') : ∃ h2 w2, OI c t h w M M (M + 1) M (k + 1) h2 w2 ∧ (∀ self K, F_X0_changeRiders_2 G c K self (nI k) h' = self (nI k + 1) h2) ∧ ∀ self, P_X12_getOut_2 G self (nI k) w' = self (nI k + 1) w2 := by
  obtain ⟨hC, hS, hF, hW, hl, ha⟩ := hI
  have e1 : w'.1 1 = w.1 1 := hW 1 (by decide)
  have e4 : w'.1 4 = w.1 4 := hW 4 (by decide)
  have e5 : w'.1 5 = w.1 5 := hW 5 (by decide)
  have en : sN w'.1 = sN w.1 := by unfold sN; rw [e1]
  have hq : k < sN w'.1 := by rw [en]; exact hk
  have hP := st_P hS hq
  have hak := ha k hk
  rw [if_neg (Nat.lt_irrefl k), if_neg (Nat.lt_irrefl k)] at hak
  have hio := hP.2.2.1
  rw [e4, e5] at hio
  by_cases ho : w'.1 5 k = w'.1 1 10
  · have ho2 : (w.1 5 k).toInt = M + 1 := by rw [← e5, ho, e1, hM]
    have hr : w'.1 10 k = 1 := by rw [hak, if_pos ⟨by omega, by omega⟩]
    have en1 : sN (w_si w' 10 k 0).1 = sN w'.1 := by unfold sN; rw [w_si_r (by decide)]
    have hC1 : Cab h' c t (w_si w' 10 k 0).1 := hC.cg (fun r _ hr => w_si_r hr)
    have hC2 := hC1.si (by rw [en1]; exact st_N8 hS) 9 1 k (-1) (by decide)
    have er : ∀ r, r ≠ 9 → r ≠ 10 → (w_si (w_si w' 10 k 0) 9 k (-1)).1 r = w'.1 r := fun r h1 h2 => by rw [w_si_r h1, w_si_r h2]
    have hS2 : St (w_si (w_si w' 10 k 0) 9 k (-1)).1 := by
      refine hS.dyn (fun r _ h2 => er r (by omega) (by omega)) (fun q hq' => ?_) (fun q r h1 h2 h3 h4 => ?_)
      · have hd := hS.dy hq'
        unfold Dy at hd ⊢
        rw [er 8 (by decide) (by decide), er 11 (by decide) (by decide), w_si_r (show 10 ≠ 9 by decide)]
        by_cases eq : q = k
        · subst eq
          rw [w_si_s, w_si_s]
          exact ⟨hd.1, ⟨by decide, by decide⟩, Or.inl rfl, fun e => absurd rfl e, fun e => absurd e (by decide), hd.2.2.2.2.2⟩
        · rw [w_si_j eq, w_si_j eq, w_si_j eq]; exact hd
      · by_cases eq : q = k
        · subst eq; rw [w_si_s] at h3; exact absurd rfl h3
        · by_cases eq2 : r = k
          · subst eq2
            rw [w_si_s] at h4; exact absurd h4 h3
          · rw [w_si_j eq, w_si_r (show 9 ≠ 10 by decide)] at h3 h4
            rw [w_si_j eq2, w_si_r (show 9 ≠ 10 by decide)] at h4
            exact st_D hS h1 h2 h3 h4
    refine ⟨m_si h' (c + 1) k (-1), w_si (w_si w' 10 k 0) 9 k (-1), ⟨hC2, hS2, hF.tr (Fr.si rfl), (hW.tr (Fw.si (Or.inr rfl))).tr (Fw.si (Or.inl rfl)), hl, fun q hq' => ?_⟩, fun self K => ?_, fun self => ?_⟩
    · rw [w_si_r (show 10 ≠ 9 by decide)]
      by_cases eq : q = k
      · subst eq
        rw [w_si_s, if_neg]
        simp only [show q < q + 1 by omega, if_true]; omega
      · rw [w_si_j eq, ha q hq']
        by_cases c1 : q < k
        · simp only [c1, show q < k + 1 by omega, if_true]
        · simp only [c1, show ¬ q < k + 1 by omega, if_false]
    · unfold F_X0_changeRiders_2
      simp only [u_nn, u_ob, u_cb, u_cw, u_ck, on_s, on_n, cab_t hC, cab_0 hC, cab_6 hC, cab_7 hC, cab_8 hC, cab_9 hC, tr_t hC, tr_6 hC, tr_8 hC, tr_9 hC, tr_11 hC, tr_12 hC, tr_13 hC, cab_i2 hC, cab_i3 hC, cab_i4 hC, tr_i0 hC, tr_i1 hC, tr_i2 hC, tr_i3 hC, tr_i4 hC, tr_i5 hC, tr_i7 hC, tr_i10 hC, q8 hS hq, qc hS hq, cab_x1 hC hS hq, cab_x2 hC hS hq, cab_x3 hC hS hq, cab_x4 hC hS hq, cab_v1 hC hq, cab_v2 hC hq, cab_v3 hC hq, cab_v4 hC hq, tr_x1 hC hS hq, tr_rq hC hS hq, tr_tq hC hS hq, tr_q0 hC hq, tr_q1 hC hq, tr_q2 hC hq, tr_q3 hC hq, tr_q4 hC hq, tr_q6 hC hq, nle_q hS hq, if_false, ho, if_true]
    · unfold P_X12_getOut_2
      simp only [u_nn, u_ob, u_cb, u_cw, u_ck, on_s, on_n, ix_1_0, ix_7_0, ix_10_0, ix_10_1, ix_10_2, ix_10_3, ix_10_4, ix_10_5, ix_10_6, ix_10_7, ix_10_8, ix_10_9, ix_13_0, ix_13_1, ix_13_2, ix_13_3, ix_13_4, ix_13_5, ix_13_6, ix_13_7, ix_13_8, ix_13_9, ix_13_10, ix_13_11, ix_13_12, ix_17_0, ix_17_1, ix_17_2, ix_17_3, ix_17_4, ix_17_6, ix_17_7, ix_17_8, ix_17_9, ix_17_10, ix_17_11, ix_17_12, ix_17_13, ix_17_14, ix_17_15, ix_17_16, ix_256_0, ix_300_0, tn_0, tn_1, tn_2, tn_3, tn_4, tn_5, tn_6, tn_7, tn_8, tn_9, tn_10, tn_11, tn_12, tn_13, tn_14, tn_15, tn_16, tn_366, q8 hS hq, qc hS hq, nle_q hS hq, if_false, p_rides hS hq, hr, ho, if_true]
      rw [if_neg (by decide)]
  · have ho2 : (w.1 5 k).toInt ≠ M + 1 := fun e => ho (by rw [I_eq, e5, e1, hM]; exact e)
    refine ⟨h', w', ⟨hC, hS, hF, hW, hl, fun q hq' => ?_⟩, fun self K => ?_, fun self => ?_⟩
    · rw [ha q hq']
      by_cases eq : q = k
      · subst eq
        simp only [Nat.lt_irrefl, show q < q + 1 by omega, if_true, if_false]
        by_cases c2 : (w.1 4 q).toInt ≤ M ∧ M < (w.1 5 q).toInt
        · rw [if_pos c2, if_pos ⟨c2.1, by omega⟩]
        · rw [if_neg c2, if_neg (fun e => c2 ⟨e.1, by omega⟩)]
      · by_cases c1 : q < k
        · simp only [c1, show q < k + 1 by omega, if_true]
        · simp only [c1, show ¬ q < k + 1 by omega, if_false]
    · unfold F_X0_changeRiders_2
      simp only [u_nn, u_ob, u_cb, u_cw, u_ck, on_s, on_n, cab_t hC, cab_0 hC, cab_6 hC, cab_7 hC, cab_8 hC, cab_9 hC, tr_t hC, tr_6 hC, tr_8 hC, tr_9 hC, tr_11 hC, tr_12 hC, tr_13 hC, cab_i2 hC, cab_i3 hC, cab_i4 hC, tr_i0 hC, tr_i1 hC, tr_i2 hC, tr_i3 hC, tr_i4 hC, tr_i5 hC, tr_i7 hC, tr_i10 hC, q8 hS hq, qc hS hq, cab_x1 hC hS hq, cab_x2 hC hS hq, cab_x3 hC hS hq, cab_x4 hC hS hq, cab_v1 hC hq, cab_v2 hC hq, cab_v3 hC hq, cab_v4 hC hq, tr_x1 hC hS hq, tr_rq hC hS hq, tr_tq hC hS hq, tr_q0 hC hq, tr_q1 hC hq, tr_q2 hC hq, tr_q3 hC hq, tr_q4 hC hq, tr_q6 hC hq, nle_q hS hq, if_false, ho]
    · unfold P_X12_getOut_2
      simp only [u_nn, u_ob, u_cb, u_cw, u_ck, on_s, on_n, ix_1_0, ix_7_0, ix_10_0, ix_10_1, ix_10_2, ix_10_3, ix_10_4, ix_10_5, ix_10_6, ix_10_7, ix_10_8, ix_10_9, ix_13_0, ix_13_1, ix_13_2, ix_13_3, ix_13_4, ix_13_5, ix_13_6, ix_13_7, ix_13_8, ix_13_9, ix_13_10, ix_13_11, ix_13_12, ix_17_0, ix_17_1, ix_17_2, ix_17_3, ix_17_4, ix_17_6, ix_17_7, ix_17_8, ix_17_9, ix_17_10, ix_17_11, ix_17_12, ix_17_13, ix_17_14, ix_17_15, ix_17_16, ix_256_0, ix_300_0, tn_0, tn_1, tn_2, tn_3, tn_4, tn_5, tn_6, tn_7, tn_8, tn_9, tn_10, tn_11, tn_12, tn_13, tn_14, tn_15, tn_16, tn_366, q8 hS hq, qc hS hq, nle_q hS hq, if_false, p_rides hS hq, ho]
      by_cases e : w'.1 10 k = 0 <;> simp only [e, if_true, if_false]
theorem out_loop {M : Int} (hM : (w.1 1 10).toInt = M + 1) : ∀ (d k n m : Nat) (h' : AH) (w' : MS), k + d = sN w.1 → d < n → d < m → OI c t h w M M (M + 1) M k h' w' → ∃ h2 w2, (∀ K, lq1 (F_X0_changeRiders_2 G c K) n (nI k) h' = K h2) ∧ lw1 (P_X12_getOut_2 G) m (nI k) w' = some w2 ∧ OI c t h w M M (M + 1) M (sN w.1) h2 w2
  | 0, k, n + 1, m + 1, h', w', e, _, _, hI => by
    have ek : k = sN w.1 := by omega
    have hC := hI.1
    have hS := hI.2.1
    have e1 : w'.1 1 = w.1 1 := hI.2.2.2.1 1 (by decide)
    have en : sN w'.1 = sN w.1 := by unfold sN; rw [e1]
    have hN := nle_N hS
    rw [en] at hN
    refine ⟨h', w', fun K => ?_, ?_, by rw [← ek]; exact hI⟩
    · show F_X0_changeRiders_2 G c K _ _ _ = _
      rw [ek, F_X0_changeRiders_2]
      simp only [u_nn, u_ob, u_cb, u_cw, u_ck, on_s, on_n, cab_t hC, cab_0 hC, cab_6 hC, cab_7 hC, cab_8 hC, cab_9 hC, tr_t hC, tr_6 hC, tr_8 hC, tr_9 hC, tr_11 hC, tr_12 hC, tr_13 hC, cab_i2 hC, cab_i3 hC, cab_i4 hC, tr_i0 hC, tr_i1 hC, tr_i2 hC, tr_i3 hC, tr_i4 hC, tr_i5 hC, tr_i7 hC, tr_i10 hC, hN, if_true]
    · show P_X12_getOut_2 G _ _ _ = _
      rw [ek, P_X12_getOut_2]
      simp only [u_nn, u_ob, u_cb, u_cw, u_ck, on_s, on_n, ix_1_0, ix_7_0, ix_10_0, ix_10_1, ix_10_2, ix_10_3, ix_10_4, ix_10_5, ix_10_6, ix_10_7, ix_10_8, ix_10_9, ix_13_0, ix_13_1, ix_13_2, ix_13_3, ix_13_4, ix_13_5, ix_13_6, ix_13_7, ix_13_8, ix_13_9, ix_13_10, ix_13_11, ix_13_12, ix_17_0, ix_17_1, ix_17_2, ix_17_3, ix_17_4, ix_17_6, ix_17_7, ix_17_8, ix_17_9, ix_17_10, ix_17_11, ix_17_12, ix_17_13, ix_17_14, ix_17_15, ix_17_16, ix_256_0, ix_300_0, tn_0, tn_1, tn_2, tn_3, tn_4, tn_5, tn_6, tn_7, tn_8, tn_9, tn_10, tn_11, tn_12, tn_13, tn_14, tn_15, tn_16, tn_366, hN, if_true]
  | d + 1, k, n + 1, m + 1, h', w', e, hn, hm, hI => by
    obtain ⟨h2, w2, hI2, f1, f2⟩ := out_step (G := G) hM (k := k) (by omega) hI
    obtain ⟨h3, w3, g1, g2, g3⟩ := out_loop hM d (k + 1) n m h2 w2 (by omega) (by omega) (by omega) hI2
    refine ⟨h3, w3, fun K => ?_, ?_, g3⟩
    · show F_X0_changeRiders_2 G c K _ _ _ = _
      rw [f1, nI_1]; exact g1 K
    · show P_X12_getOut_2 G _ _ _ = _
      rw [f2, nI_1]; exact g2
theorem place_ok {v : VV} (hS : St v) {q : Nat} (hq : q < sN v) : placeV v q = -1 ∨ ∃ s, s < 8 ∧ placeV v q = nI s ∧ freeB v q s = true := by
  obtain ⟨s0, hs0, e0⟩ := own_s hS hq
  unfold placeV
  rw [e0, nI_clamp (by omega)]
  by_cases hf : freeB v q s0 = true
  · rw [if_pos hf]; exact Or.inr ⟨s0, hs0, rfl, hf⟩
  · rw [if_neg hf]
    cases e : ff (freeB v q) 8 0 with
    | none => exact Or.inl rfl
    | some s => obtain ⟨_, h2, h3, _⟩ := ff_some e; exact Or.inr ⟨s, by omega, rfl, h3⟩
theorem in_step {M : Int} (hM : (w.1 1 10).toInt = M + 1) {k : Nat} (hk : k < sN w.1) {h' : AH} {w' : MS} (hI : OI c t h w (M + 1) M (M + 1) (M + 1) k h' w') : ∃ h2 w2, OI c t h w (M + 1) M (M + 1) (M + 1) (k + 1) h2 w2 ∧ (∀ self, F_X0_changeRiders_47 G c self (nI k) h' = self (nI k + 1) h2) ∧ ∀ self, P_X12_getIn_2 G self (nI k) w' = self (nI k + 1) w2 := by
  obtain ⟨hC, hS, hF, hW, hl, ha⟩ := hI
  have e1 : w'.1 1 = w.1 1 := hW 1 (by decide)
  have e4 : w'.1 4 = w.1 4 := hW 4 (by decide)
  have e5 : w'.1 5 = w.1 5 := hW 5 (by decide)
  have en : sN w'.1 = sN w.1 := by unfold sN; rw [e1]
  have hq : k < sN w'.1 := by rw [en]; exact hk
  have hP := st_P hS hq
  have hak := ha k hk
  rw [if_neg (Nat.lt_irrefl k), if_neg (Nat.lt_irrefl k)] at hak
  have hio := hP.2.2.1
  rw [e4, e5] at hio
  by_cases ho : w'.1 4 k = w'.1 1 10
  · have ho2 : (w.1 4 k).toInt = M + 1 := by rw [← e4, ho, e1, hM]
    have en1 : sN (w_si w' 10 k 1).1 = sN w'.1 := by unfold sN; rw [w_si_r (by decide)]
    have hC1 : Cab h' c t (w_si w' 10 k 1).1 := hC.cg (fun r _ hr => w_si_r hr)
    have hC2 := hC1.si (by rw [en1]; exact st_N8 hS) 9 1 k (placeV w'.1 k) (by decide)
    have er : ∀ r, r ≠ 9 → r ≠ 10 → (w_si (w_si w' 10 k 1) 9 k (placeV w'.1 k)).1 r = w'.1 r := fun r h1 h2 => by rw [w_si_r h1, w_si_r h2]
    have hS2 : St (w_si (w_si w' 10 k 1) 9 k (placeV w'.1 k)).1 := by
      refine hS.dyn (fun r _ h2 => er r (by omega) (by omega)) (fun q hq' => ?_) (fun q r h1 h2 h3 h4 => ?_)
      · have hd := hS.dy hq'
        unfold Dy at hd ⊢
        rw [er 8 (by decide) (by decide), er 11 (by decide) (by decide), w_si_r (show 10 ≠ 9 by decide)]
        by_cases eq : q = k
        · subst eq
          rw [w_si_s, w_si_s]
          refine ⟨hd.1, ?_, Or.inr rfl, fun _ => rfl, fun e => ?_, hd.2.2.2.2.2⟩
          · rcases place_ok hS hq with e | ⟨s, h5, h6, h7⟩
            · rw [e]; exact ⟨by decide, by decide⟩
            · rw [h6]; have := nI_toInt (n := s) (by omega); unfold bd; omega
          · rcases place_ok hS hq with e' | ⟨s, h5, h6, h7⟩
            · rw [e'] at e; exact absurd e (by decide)
            · rw [h6] at e
              have h8 : 4 ≤ s := (nI_leI (a := 4) (by decide) (by omega)).mp e
              unfold freeB at h7
              simp only [show ¬ s < 4 by omega, decide_false, Bool.false_or, Bool.and_eq_true, decide_eq_true_eq] at h7
              exact h7.1
        · rw [w_si_j eq, w_si_j eq, w_si_j eq]; exact hd
      · have no : ∀ j, j < sN w'.1 → w'.1 9 j ≠ -1 → w'.1 9 j ≠ placeV w'.1 k := fun j hj hne e => by
          rcases place_ok hS hq with e' | ⟨s, h5, h6, h7⟩
          · rw [e'] at e; exact hne e
          · rw [h6] at e
            unfold freeB at h7
            simp only [Bool.and_eq_true, decide_eq_true_eq] at h7
            exact (sitV_no (st_N8 hS)).mp h7.2 j hj e
        by_cases eq : q = k
        · by_cases eq2 : r = k
          · rw [eq, eq2]
          · subst eq
            rw [w_si_s] at h3 h4
            rw [w_si_j eq2, w_si_r (show 9 ≠ 10 by decide)] at h4
            exact absurd h4.symm (no r h2 (by rw [← h4]; exact h3))
        · by_cases eq2 : r = k
          · subst eq2
            rw [w_si_s] at h4
            rw [w_si_j eq, w_si_r (show 9 ≠ 10 by decide)] at h3 h4
            exact absurd h4 (no q h1 h3)
          · rw [w_si_j eq, w_si_r (show 9 ≠ 10 by decide)] at h3 h4
            rw [w_si_j eq2, w_si_r (show 9 ≠ 10 by decide)] at h4
            exact st_D hS h1 h2 h3 h4
    refine ⟨m_si h' (c + 1) k (placeV w'.1 k), w_si (w_si w' 10 k 1) 9 k (placeV w'.1 k), ⟨hC2, hS2, hF.tr (Fr.si rfl), (hW.tr (Fw.si (Or.inr rfl))).tr (Fw.si (Or.inl rfl)), hl, fun q hq' => ?_⟩, fun self => ?_, fun self => ?_⟩
    · rw [w_si_r (show 10 ≠ 9 by decide)]
      by_cases eq : q = k
      · subst eq
        rw [w_si_s, if_pos]
        simp only [show q < q + 1 by omega, if_true]; omega
      · rw [w_si_j eq, ha q hq']
        by_cases c1 : q < k
        · simp only [c1, show q < k + 1 by omega, if_true]
        · simp only [c1, show ¬ q < k + 1 by omega, if_false]
    · unfold F_X0_changeRiders_47
      simp only [u_nn, u_ob, u_cb, u_cw, u_ck, on_s, on_n, cab_t hC, cab_0 hC, cab_6 hC, cab_7 hC, cab_8 hC, cab_9 hC, tr_t hC, tr_6 hC, tr_8 hC, tr_9 hC, tr_11 hC, tr_12 hC, tr_13 hC, cab_i2 hC, cab_i3 hC, cab_i4 hC, tr_i0 hC, tr_i1 hC, tr_i2 hC, tr_i3 hC, tr_i4 hC, tr_i5 hC, tr_i7 hC, tr_i10 hC, q8 hS hq, qc hS hq, cab_x1 hC hS hq, cab_x2 hC hS hq, cab_x3 hC hS hq, cab_x4 hC hS hq, cab_v1 hC hq, cab_v2 hC hq, cab_v3 hC hq, cab_v4 hC hq, tr_x1 hC hS hq, tr_rq hC hS hq, tr_tq hC hS hq, tr_q0 hC hq, tr_q1 hC hq, tr_q2 hC hq, tr_q3 hC hq, tr_q4 hC hq, tr_q6 hC hq, nle_q hS hq, if_false, ho, if_true, c_placeFor hC hS hq]
    · unfold P_X12_getIn_2
      simp only [u_nn, u_ob, u_cb, u_cw, u_ck, on_s, on_n, ix_1_0, ix_7_0, ix_10_0, ix_10_1, ix_10_2, ix_10_3, ix_10_4, ix_10_5, ix_10_6, ix_10_7, ix_10_8, ix_10_9, ix_13_0, ix_13_1, ix_13_2, ix_13_3, ix_13_4, ix_13_5, ix_13_6, ix_13_7, ix_13_8, ix_13_9, ix_13_10, ix_13_11, ix_13_12, ix_17_0, ix_17_1, ix_17_2, ix_17_3, ix_17_4, ix_17_6, ix_17_7, ix_17_8, ix_17_9, ix_17_10, ix_17_11, ix_17_12, ix_17_13, ix_17_14, ix_17_15, ix_17_16, ix_256_0, ix_300_0, tn_0, tn_1, tn_2, tn_3, tn_4, tn_5, tn_6, tn_7, tn_8, tn_9, tn_10, tn_11, tn_12, tn_13, tn_14, tn_15, tn_16, tn_366, q8 hS hq, qc hS hq, nle_q hS hq, if_false, ho, if_true, p_sitsDown hS hq]
  · have ho2 : (w.1 4 k).toInt ≠ M + 1 := fun e => ho (by rw [I_eq, e4, e1, hM]; exact e)
    refine ⟨h', w', ⟨hC, hS, hF, hW, hl, fun q hq' => ?_⟩, fun self => ?_, fun self => ?_⟩
    · rw [ha q hq']
      by_cases eq : q = k
      · subst eq
        simp only [Nat.lt_irrefl, show q < q + 1 by omega, if_true, if_false]
        by_cases c2 : (w.1 4 q).toInt ≤ M ∧ M + 1 < (w.1 5 q).toInt
        · rw [if_pos c2, if_pos ⟨by omega, c2.2⟩]
        · rw [if_neg c2, if_neg (fun e => c2 ⟨by omega, e.2⟩)]
      · by_cases c1 : q < k
        · simp only [c1, show q < k + 1 by omega, if_true]
        · simp only [c1, show ¬ q < k + 1 by omega, if_false]
    · unfold F_X0_changeRiders_47
      simp only [u_nn, u_ob, u_cb, u_cw, u_ck, on_s, on_n, cab_t hC, cab_0 hC, cab_6 hC, cab_7 hC, cab_8 hC, cab_9 hC, tr_t hC, tr_6 hC, tr_8 hC, tr_9 hC, tr_11 hC, tr_12 hC, tr_13 hC, cab_i2 hC, cab_i3 hC, cab_i4 hC, tr_i0 hC, tr_i1 hC, tr_i2 hC, tr_i3 hC, tr_i4 hC, tr_i5 hC, tr_i7 hC, tr_i10 hC, q8 hS hq, qc hS hq, cab_x1 hC hS hq, cab_x2 hC hS hq, cab_x3 hC hS hq, cab_x4 hC hS hq, cab_v1 hC hq, cab_v2 hC hq, cab_v3 hC hq, cab_v4 hC hq, tr_x1 hC hS hq, tr_rq hC hS hq, tr_tq hC hS hq, tr_q0 hC hq, tr_q1 hC hq, tr_q2 hC hq, tr_q3 hC hq, tr_q4 hC hq, tr_q6 hC hq, nle_q hS hq, if_false, ho]
    · unfold P_X12_getIn_2
      simp only [u_nn, u_ob, u_cb, u_cw, u_ck, on_s, on_n, ix_1_0, ix_7_0, ix_10_0, ix_10_1, ix_10_2, ix_10_3, ix_10_4, ix_10_5, ix_10_6, ix_10_7, ix_10_8, ix_10_9, ix_13_0, ix_13_1, ix_13_2, ix_13_3, ix_13_4, ix_13_5, ix_13_6, ix_13_7, ix_13_8, ix_13_9, ix_13_10, ix_13_11, ix_13_12, ix_17_0, ix_17_1, ix_17_2, ix_17_3, ix_17_4, ix_17_6, ix_17_7, ix_17_8, ix_17_9, ix_17_10, ix_17_11, ix_17_12, ix_17_13, ix_17_14, ix_17_15, ix_17_16, ix_256_0, ix_300_0, tn_0, tn_1, tn_2, tn_3, tn_4, tn_5, tn_6, tn_7, tn_8, tn_9, tn_10, tn_11, tn_12, tn_13, tn_14, tn_15, tn_16, tn_366, q8 hS hq, qc hS hq, nle_q hS hq, if_false, ho]
theorem in_loop {M : Int} (hM : (w.1 1 10).toInt = M + 1) : ∀ (d k n m : Nat) (h' : AH) (w' : MS), k + d = sN w.1 → d < n → d < m → OI c t h w (M + 1) M (M + 1) (M + 1) k h' w' → ∃ h2 w2, lq1 (F_X0_changeRiders_47 G c) n (nI k) h' = some h2 ∧ lw1 (P_X12_getIn_2 G) m (nI k) w' = some w2 ∧ OI c t h w (M + 1) M (M + 1) (M + 1) (sN w.1) h2 w2
  | 0, k, n + 1, m + 1, h', w', e, _, _, hI => by
    have ek : k = sN w.1 := by omega
    have hC := hI.1
    have hS := hI.2.1
    have e1 : w'.1 1 = w.1 1 := hI.2.2.2.1 1 (by decide)
    have en : sN w'.1 = sN w.1 := by unfold sN; rw [e1]
    have hN := nle_N hS
    rw [en] at hN
    refine ⟨h', w', ?_, ?_, by rw [← ek]; exact hI⟩
    · show F_X0_changeRiders_47 G c _ _ _ = _
      rw [ek, F_X0_changeRiders_47]
      simp only [u_nn, u_ob, u_cb, u_cw, u_ck, on_s, on_n, cab_t hC, cab_0 hC, cab_6 hC, cab_7 hC, cab_8 hC, cab_9 hC, tr_t hC, tr_6 hC, tr_8 hC, tr_9 hC, tr_11 hC, tr_12 hC, tr_13 hC, cab_i2 hC, cab_i3 hC, cab_i4 hC, tr_i0 hC, tr_i1 hC, tr_i2 hC, tr_i3 hC, tr_i4 hC, tr_i5 hC, tr_i7 hC, tr_i10 hC, hN, if_true]
    · show P_X12_getIn_2 G _ _ _ = _
      rw [ek, P_X12_getIn_2]
      simp only [u_nn, u_ob, u_cb, u_cw, u_ck, on_s, on_n, ix_1_0, ix_7_0, ix_10_0, ix_10_1, ix_10_2, ix_10_3, ix_10_4, ix_10_5, ix_10_6, ix_10_7, ix_10_8, ix_10_9, ix_13_0, ix_13_1, ix_13_2, ix_13_3, ix_13_4, ix_13_5, ix_13_6, ix_13_7, ix_13_8, ix_13_9, ix_13_10, ix_13_11, ix_13_12, ix_17_0, ix_17_1, ix_17_2, ix_17_3, ix_17_4, ix_17_6, ix_17_7, ix_17_8, ix_17_9, ix_17_10, ix_17_11, ix_17_12, ix_17_13, ix_17_14, ix_17_15, ix_17_16, ix_256_0, ix_300_0, tn_0, tn_1, tn_2, tn_3, tn_4, tn_5, tn_6, tn_7, tn_8, tn_9, tn_10, tn_11, tn_12, tn_13, tn_14, tn_15, tn_16, tn_366, hN, if_true]
  | d + 1, k, n + 1, m + 1, h', w', e, hn, hm, hI => by
    obtain ⟨h2, w2, hI2, f1, f2⟩ := in_step (G := G) hM (k := k) (by omega) hI
    obtain ⟨h3, w3, g1, g2, g3⟩ := in_loop hM d (k + 1) n m h2 w2 (by omega) (by omega) (by omega) hI2
    refine ⟨h3, w3, ?_, ?_, g3⟩
    · show F_X0_changeRiders_47 G c _ _ _ = _
      rw [f1, nI_1]; exact g1
    · show P_X12_getIn_2 G _ _ _ = _
      rw [f2, nI_1]; exact g2
/-- who rides at the mile M stays or gets out, and others get in, at the mile M + 1 -/
theorem change_both {M : Int} (hC : Cab h c t w.1) (hS : St w.1) (hM : (w.1 1 10).toInt = M + 1) (ha : ∀ q, q < sN w.1 → w.1 10 q = if (w.1 4 q).toInt ≤ M ∧ M < (w.1 5 q).toInt then 1 else 0) : ∃ h2 w1 w2, f_X0_changeRiders G c h = some h2 ∧ p_X12_getOut G w = some w1 ∧ p_X12_getIn G w1 = some w2 ∧ Cab h2 c t w2.1 ∧ St w2.1 ∧ Ab w2.1 ∧ Fr (fun a => a = c + 1) h h2 ∧ Fw (fun k => k = 9 ∨ k = 10) w w2 ∧ w2.2 = w.2 := by
  have hI : OI c t h w M M (M + 1) M 0 h w := ⟨hC, hS, Fr.rf, Fw.rf, rfl, fun q hq => by
    simp only [Nat.not_lt_zero, if_false]; exact ha q hq⟩
  obtain ⟨h1, w1, f1, f2, f3⟩ := out_loop (G := G) hM (sN w.1) 0 bN bN h w (Nat.zero_add _) (bN8 hS) (bN8 hS) hI
  obtain ⟨g1, g2, g3, g4, g5, g6⟩ := f3
  have hI2 : OI c t h w (M + 1) M (M + 1) (M + 1) 0 h1 w1 := ⟨g1, g2, g3, g4, g5, fun q hq => by
    rw [g6 q hq]; simp only [hq, Nat.not_lt_zero, if_true, if_false]⟩
  obtain ⟨h2, w2, k1, k2, k3⟩ := in_loop (G := G) hM (sN w.1) 0 bN bN h1 w1 (Nat.zero_add _) (bN8 hS) (bN8 hS) hI2
  obtain ⟨l1, l2, l3, l4, l5, l6⟩ := k3
  simp only [nI_0] at f1
  rw [nI_0] at f2 k1 k2
  refine ⟨h2, w1, w2, ?_, f2, k2, l1, l2, ?_, l3, l4, l5⟩
  · unfold f_X0_changeRiders
    rw [f1]; exact k1
  · have e1 : w2.1 1 = w.1 1 := l4 1 (by decide)
    have e4 : w2.1 4 = w.1 4 := l4 4 (by decide)
    have e5 : w2.1 5 = w.1 5 := l4 5 (by decide)
    intro q hq
    have hq' : q < sN w.1 := by unfold sN at hq ⊢; rw [e1] at hq; exact hq
    rw [l6 q hq', if_pos hq', if_pos hq', e1, e4, e5]
    simp only [I_le, I_lt, hM]
/-- one mile, by the hole as it is -/
theorem roll_both (hC : Cab h c t w.1) (hS : St w.1) (hA : Ab w.1) (hR : Cr w.1) (hm : (w.1 1 10).toInt < 240) : ∃ h2 w2 r, f_X0_go G c none h = some (r, h2) ∧ p_X12_rolls G w = some (r, w2) ∧ Cab h2 c t w2.1 ∧ St w2.1 ∧ Ab w2.1 ∧ Cr w2.1 ∧ Fr (fun a => c ≤ a ∧ a < c + 5) h h2 ∧ Fw (fun k => k = 1 ∨ k = 2 ∨ k = 9 ∨ k = 10 ∨ k = 11 ∨ k = 12) w w2 ∧ w2.2 = w.2 ∧ (∀ i, i ≠ 10 → i ≠ 11 → w2.1 1 i = w.1 1 i) ∧ w2.1 1 10 = w.1 1 10 + 1 ∧ r = dsum w w2 (sN w.1) := by
  obtain ⟨h1, w1, r, f1, f2, hI⟩ := suffer_both (G := G) hC hS hA hR
  have hS1 := hI.st hS
  obtain ⟨hC1, hF1, hW1, hl1, hb1, hr1, -⟩ := hI
  have e1 : w1.1 1 = w.1 1 := hW1 1 (by decide)
  have en1 : sN w1.1 = sN w.1 := by unfold sN; rw [e1]
  obtain ⟨n, hn, hK, hkv⟩ := cab_i5 hC1
  have hL6 := st_L6 hS1
  -- the reference's knobs
  let wa := w_si w1 2 0 (w1.1 1 12)
  have ha1 : wa.1 1 = w1.1 1 := w_si_r (by decide)
  have hSa : St wa.1 := hS1.r1 (fun r h1 _ _ => w_si_r (by omega)) (fun i _ => by rw [ha1]) (by rw [ha1]; exact st_mile hS1) (by rw [ha1]; exact st_warm hS1) (by rw [ha1]; exact st_hole hS1) (fun k hk => by
    have := st_kv hS1 hk
    unfold kv at this ⊢
    by_cases hk0 : k = 0
    · rw [if_pos hk0] at this ⊢; rw [ha1]; exact this
    · rw [if_neg hk0] at this ⊢; rw [w_si_j hk0]; exact this)
  have hka : wa.1 2 (sL w1.1) = nI (n / 4 ^ sL w1.1 % 4) := by
    have := hkv (sL w1.1) (by omega)
    unfold kv at this
    by_cases hk0 : sL w1.1 = 0
    · rw [if_pos hk0] at this; rw [← this, hk0]; exact w_si_s _ _ _ _
    · rw [if_neg hk0] at this; rw [← this]; exact w_si_j hk0
  let wn := warmI (w1.1 1 11) (nI (n / 4 ^ sL w1.1 % 4)) (w1.1 1 13) (coldV w1.1 (w1.1 1 10))
  have hcold : coldV wa.1 (w1.1 1 10) = coldV w1.1 (w1.1 1 10) := by
    unfold coldV sC; rw [ha1, show wa.1 15 = w1.1 15 from w_si_r (by decide), show wa.1 16 = w1.1 16 from w_si_r (by decide), show wa.1 17 = w1.1 17 from w_si_r (by decide)]
  obtain ⟨wb, hb, hb2, hbW, hbl⟩ := p_knobMoves_at G 6 bN (w_si wa 1 11 wn) (bN_gt (by decide)) (by decide)
  have hb1' : wb.1 1 = (w_si wa 1 11 wn).1 1 := hbW 1 (by decide)
  let wc := w_si wb 1 10 (wb.1 1 10 + 1)
  have i1 : (1 : Int32).toInt = 1 := rfl
  have hmile0 : wb.1 1 10 = w.1 1 10 := by rw [hb1', w_si_j (by decide), ha1, e1]
  have hmile : (wc.1 1 10).toInt = (w.1 1 10).toInt + 1 := by
    show ((w_si wb 1 10 (wb.1 1 10 + 1)).1 1 10).toInt = _
    rw [w_si_s, hmile0, I_add (by rw [i1]; have := (st_mile hS).1; omega) (by rw [i1]; omega), i1]
  have hc1 : ∀ i, i ≠ 10 → i ≠ 11 → wc.1 1 i = w.1 1 i := fun i h1 h2 => by
    show (w_si wb 1 10 (wb.1 1 10 + 1)).1 1 i = _
    rw [w_si_j h1, hb1', w_si_j h2, ha1, e1]
  have hc11 : wc.1 1 11 = wn := by
    show (w_si wb 1 10 (wb.1 1 10 + 1)).1 1 11 = _
    rw [w_si_j (by decide), hb1', w_si_s]
  have hcr : ∀ r, r ≠ 1 → r ≠ 2 → wc.1 r = w1.1 r := fun r h1 h2 => by
    show (w_si wb 1 10 (wb.1 1 10 + 1)).1 r = _
    rw [w_si_r h1, hbW r h2, w_si_r h1, w_si_r h2]
  have hok := older_kv hn
  have hKc : KV (nI ((4 * n + n % 4) % 16384)) wc.1 := by
    refine ⟨_, hok.1, rfl, fun k hk => ?_⟩
    have h12 : wc.1 1 12 = nI (n % 4) := by
      rw [hc1 12 (by decide) (by decide), ← e1]
      have := hkv 0 (by decide)
      simpa [kv] using this
    unfold kv
    by_cases hk0 : k = 0
    · rw [if_pos hk0, h12, hk0, Nat.pow_zero, Nat.div_one, hok.2.1]
    · rw [if_neg hk0]
      show (w_si wb 1 10 (wb.1 1 10 + 1)).1 2 k = _
      rw [w_si_r (by decide), hb2, if_pos (by omega), w_si_r (by decide)]
      obtain ⟨j, rfl⟩ : ∃ j, k = j + 1 := ⟨k - 1, by omega⟩
      rw [hok.2.2 j (by omega), Nat.add_sub_cancel]
      show (w_si w1 2 0 (w1.1 1 12)).1 2 j = _
      have := hkv j (by omega)
      unfold kv at this
      by_cases hj : j = 0
      · subst hj
        rw [w_si_s]; simpa using this
      · rw [if_neg hj] at this
        rw [w_si_j hj, this]
  have hSc : St wc.1 := hS1.r1 (fun r h1 _ _ => hcr r (by omega) (by omega)) (fun i hi => by rw [hc1 i (by omega) (by omega), e1]) ⟨by rw [hmile]; have := (st_mile hS).1; omega, by rw [hmile]; omega⟩ (by rw [hc11]; exact warm_bd _ _ _ _) (by rw [hc1 13 (by decide) (by decide)]; exact st_hole hS) (fun k hk => by
    obtain ⟨n', h1, h2, h3⟩ := hKc
    rw [h3 k hk]
    exact nI_bd (b := 3) (Nat.le_of_lt_succ (Nat.mod_lt _ (by decide))) (by decide))
  -- the class's heap
  let ha := m_si h1 c 3 wn
  let hb' := m_si ha c 5 (nI ((4 * n + n % 4) % 16384))
  let hc := m_si hb' c 4 (w.1 1 10 + 1)
  have hhc : ∀ j, j ≠ 3 → j ≠ 4 → j ≠ 5 → m_i hc c j = m_i h1 c j := fun j h3 h4 h5 => by
    show m_i (m_si (m_si (m_si h1 c 3 wn) c 5 _) c 4 _) c j = _
    rw [m_i_sj h4, m_i_sj h5, m_i_sj h3]
  have hCc : Cab hc c t wc.1 := by
    refine hC1.sc (h' := hc) (st_N8 hS1) rfl rfl (fun a ha => ?_) (fun r h1 _ _ => hcr r (by omega) (by omega)) (fun i hi => by rw [hc1 i (by omega) (by omega), e1]) ?_ ?_ ?_ ?_
    · show m_i (m_si (m_si (m_si h1 c 3 wn) c 5 _) c 4 _) a = _
      rw [m_i_sb ha, m_i_sb ha, m_i_sb ha]
    · rw [hhc 2 (by decide) (by decide) (by decide), cab_i2 hC1, hc1 13 (by decide) (by decide), e1]
    · show m_i (m_si (m_si (m_si h1 c 3 wn) c 5 _) c 4 _) c 3 = _
      rw [m_i_sj (by decide), m_i_sj (by decide), m_i_ss, hc11]
    · show m_i (m_si (m_si (m_si h1 c 3 wn) c 5 _) c 4 _) c 4 = (w_si wb 1 10 (wb.1 1 10 + 1)).1 1 10
      rw [m_i_ss, w_si_s, hmile0]
    · show KV (m_i (m_si (m_si (m_si h1 c 3 wn) c 5 _) c 4 _) c 5) _
      rw [m_i_sj (by decide), m_i_ss]; exact hKc
  have enc : sN wc.1 = sN w.1 := by unfold sN; rw [hc1 6 (by decide) (by decide)]
  obtain ⟨h2, wd, we, k1, k2, k3, k4, k5, k6, k7, k8, k9⟩ := change_both (G := G) (M := (w.1 1 10).toInt) hCc hSc hmile (fun q hq => by
    rw [hcr 10 (by decide) (by decide), hcr 4 (by decide) (by decide), hcr 5 (by decide) (by decide), hW1 10 (by decide), hW1 4 (by decide), hW1 5 (by decide)]
    rw [enc] at hq
    rw [hA q hq]
    simp only [I_le, I_lt])
  have ee1 : we.1 1 = wc.1 1 := k8 1 (by decide)
  have ee12 : we.1 12 = w1.1 12 := by rw [k8 12 (by decide), hcr 12 (by decide) (by decide)]
  refine ⟨h2, we, r, ?_, ?_, k4, k5, k6, fun q hq => ?_, ?_, fun k hk => ?_, ?_, fun i h1 h2 => ?_, ?_, ?_⟩
  · unfold f_X0_go
    rw [u_nn, on_n]; dsimp only; rw [u_ck (cab_t hC), f1, u_cb, u_ck (cab_t hC1), cab_0 hC1, u_ob, u_ck (tr_t hC1)]
    unfold f_X11_knobAgo
    rw [u_cb, u_ck (cab_t hC1), cab_0 hC1, u_ob, u_ck (tr_t hC1), cab_i4 hC1, c_coldAt hC1 hS1, u_cb, c_warmthAfter, u_cb, u_ck (cab_t hC1), u_nn, tr_i3 hC1, st_L hS1, hK, ago_e hn (by omega), cab_i3 hC1, cab_i2 hC1]
    unfold f_X11_aMileOlder
    rw [u_cb, m_i_sj (show 5 ≠ 3 by decide), hK, older_e hn, m_t_si, u_ck (cab_t hC1), u_nn, u_nn, m_i_sj (show 4 ≠ 5 by decide), m_i_sj (show 4 ≠ 3 by decide), cab_i4 hC1, show w1.1 1 10 + 1 = w.1 1 10 + 1 by rw [e1]]
    show ob (f_X0_changeRiders G c hc) _ = _
    rw [k1]; rfl
  · unfold p_X12_rolls
    rw [f2, u_ck ix_17_12, u_ck ix_7_0, u_nn, tn_0, tn_12, u_ck ix_17_11, u_ck ix_17_3]
    have hl3 : (w_si w1 2 0 (w1.1 1 12)).1 1 = w1.1 1 := w_si_r (by decide)
    rw [hl3, tn_3, st_L hS1, u_ck (u_ixn (by omega) (by decide)), u_ck ix_17_13, u_ck ix_17_10, tn_10, p_coldOf hSa, u_cw, p_warmer, u_cw, u_ck ix_17_11, u_nn, nI_clamp (by omega)]
    have hb' := hb
    rw [hka, hcold, tn_11, tn_13]
    unfold p_X12_knobMoves
    have h6 : lw1 (P_X12_knobMoves_3 G) bN 6 (w_si wa 1 11 wn) = some wb := hb
    rw [h6, u_ob, u_ck ix_17_10, u_ck ix_17_10, u_nn]
    show ob (p_X12_getOut G wc) _ = _
    rw [k2, u_ob, k3, u_ob]
  · have h6 : sN we.1 = sN w.1 := by unfold sN; rw [ee1, hc1 6 (by decide) (by decide)]
    rw [h6] at hq
    rw [k8 11 (by decide), hcr 11 (by decide) (by decide), ee1, hmile]
    have := (hb1 q hq).2
    rw [if_pos hq] at this
    exact this
  · refine (hF1.wk (fun a ha => by omega)).tr (Fr.tr (h1 := hc) ?_ (k7.wk (fun a ha => by omega)))
    exact ((Fr.si (by omega)).tr (Fr.si (by omega))).tr (Fr.si (by omega))
  · rw [k8 k (by omega), hcr k (by omega) (by omega), hW1 k (by omega)]
  · rw [k9]
    show wb.2 = w.2
    rw [hbl]; exact hl1
  · rw [ee1]; exact hc1 i h1 h2
  · rw [ee1]
    show (w_si wb 1 10 (wb.1 1 10 + 1)).1 1 10 = _
    rw [w_si_s, hmile0]
  · rw [hr1]
    exact fs_cong (fun j _ _ x => by rw [ee12])
end
