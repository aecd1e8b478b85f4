/-! PURE 98o: a mile, how the riders change. -/
section
variable {G : GG} {c t : Nat} {h : AH} {w : MS}
/-- one mile, by the hole as it is; how the riders change -/
theorem roll_mid (hC : Cab h c t w.1) (hS : St w.1) (hA : Ab w.1) (hR : Cr w.1) (hm : (w.1 1 10).toInt < 240) : ∃ h2 w2 r, f_X0_go G c none h = some (r, h2) ∧ p_X12_rolls G w = some (r, w2) ∧ Cab h2 c t w2.1 ∧ St w2.1 ∧ Ab w2.1 ∧ Cr w2.1 ∧ Fr (fun a => c ≤ a ∧ a < c + 5) h h2 ∧ Fw (fun k => k = 1 ∨ k = 2 ∨ k = 9 ∨ k = 10 ∨ k = 11 ∨ k = 12) w w2 ∧ w2.2 = w.2 ∧ (∀ i, i ≠ 10 → i ≠ 11 → w2.1 1 i = w.1 1 i) ∧ w2.1 1 10 = w.1 1 10 + 1 ∧ ∃ hc wc wd, Cab hc c t wc.1 ∧ St wc.1 ∧ (wc.1 1 10).toInt = (w.1 1 10).toInt + 1 ∧ (∀ q, q < sN wc.1 → wc.1 10 q = if (wc.1 4 q).toInt ≤ (w.1 1 10).toInt ∧ (w.1 1 10).toInt < (wc.1 5 q).toInt then 1 else 0) ∧ p_X12_getOut G wc = some wd ∧ p_X12_getIn G wd = some w2 ∧ (∀ i, i ≠ 10 → i ≠ 11 → wc.1 1 i = w.1 1 i) ∧ wc.1 1 10 = w.1 1 10 + 1 ∧ (∀ j, wc.1 2 j = if 1 ≤ j ∧ j ≤ 6 then (w_si w 2 0 (w.1 1 12)).1 2 (j - 1) else (w_si w 2 0 (w.1 1 12)).1 2 j) ∧ ∀ r, 3 ≤ r → r ≠ 11 → r ≠ 12 → wc.1 r = w.1 r := by
  obtain ⟨h1, w1, r, f1, f2, hI⟩ := suffer_both (G := G) hC hS hA hR
  have hS1 := hI.st hS
  obtain ⟨hC1, hF1, hW1, hl1, hb1, hr1, -⟩ := hI
  have e1 : w1.1 1 = w.1 1 := hW1 1 (by decide)
  have en1 : sN w1.1 = sN w.1 := by unfold sN; rw [e1]
  obtain ⟨n, hn, hK, hkv⟩ := cab_i5 hC1
  have hL6 := st_L6 hS1
  -- the reference's knobs
  let wa := w_si w1 2 0 (w1.1 1 12)
  have ha1 : wa.1 1 = w1.1 1 := w_si_r (by decide)
  have hSa : St wa.1 := hS1.r1 (fun r h1 _ _ => w_si_r (by omega)) (fun i _ => by rw [ha1]) (by rw [ha1]; exact st_mile hS1) (by rw [ha1]; exact st_warm hS1) (by rw [ha1]; exact st_hole hS1) (fun k hk => by
    have := st_kv hS1 hk
    unfold kv at this ⊢
    by_cases hk0 : k = 0
    · rw [if_pos hk0] at this ⊢; rw [ha1]; exact this
    · rw [if_neg hk0] at this ⊢; rw [w_si_j hk0]; exact this)
  have hka : wa.1 2 (sL w1.1) = nI (n / 4 ^ sL w1.1 % 4) := by
    have := hkv (sL w1.1) (by omega)
    unfold kv at this
    by_cases hk0 : sL w1.1 = 0
    · rw [if_pos hk0] at this; rw [← this, hk0]; exact w_si_s _ _ _ _
    · rw [if_neg hk0] at this; rw [← this]; exact w_si_j hk0
  let wn := warmI (w1.1 1 11) (nI (n / 4 ^ sL w1.1 % 4)) (w1.1 1 13) (coldV w1.1 (w1.1 1 10))
  have hcold : coldV wa.1 (w1.1 1 10) = coldV w1.1 (w1.1 1 10) := by
    unfold coldV sC; rw [ha1, show wa.1 15 = w1.1 15 from w_si_r (by decide), show wa.1 16 = w1.1 16 from w_si_r (by decide), show wa.1 17 = w1.1 17 from w_si_r (by decide)]
  obtain ⟨wb, hb, hb2, hbW, hbl⟩ := p_knobMoves_at G 6 bN (w_si wa 1 11 wn) (bN_gt (by decide)) (by decide)
  have hb1' : wb.1 1 = (w_si wa 1 11 wn).1 1 := hbW 1 (by decide)
  let wc := w_si wb 1 10 (wb.1 1 10 + 1)
  have i1 : (1 : Int32).toInt = 1 := rfl
  have hmile0 : wb.1 1 10 = w.1 1 10 := by rw [hb1', w_si_j (by decide), ha1, e1]
  have hmile : (wc.1 1 10).toInt = (w.1 1 10).toInt + 1 := by
    show ((w_si wb 1 10 (wb.1 1 10 + 1)).1 1 10).toInt = _
    rw [w_si_s, hmile0, I_add (by rw [i1]; have := (st_mile hS).1; omega) (by rw [i1]; omega), i1]
  have hc1 : ∀ i, i ≠ 10 → i ≠ 11 → wc.1 1 i = w.1 1 i := fun i h1 h2 => by
    show (w_si wb 1 10 (wb.1 1 10 + 1)).1 1 i = _
    rw [w_si_j h1, hb1', w_si_j h2, ha1, e1]
  have hc11 : wc.1 1 11 = wn := by
    show (w_si wb 1 10 (wb.1 1 10 + 1)).1 1 11 = _
    rw [w_si_j (by decide), hb1', w_si_s]
  have hcr : ∀ r, r ≠ 1 → r ≠ 2 → wc.1 r = w1.1 r := fun r h1 h2 => by
    show (w_si wb 1 10 (wb.1 1 10 + 1)).1 r = _
    rw [w_si_r h1, hbW r h2, w_si_r h1, w_si_r h2]
  have hok := older_kv hn
  have hKc : KV (nI ((4 * n + n % 4) % 16384)) wc.1 := by
    refine ⟨_, hok.1, rfl, fun k hk => ?_⟩
    have h12 : wc.1 1 12 = nI (n % 4) := by
      rw [hc1 12 (by decide) (by decide), ← e1]
      have := hkv 0 (by decide)
      simpa [kv] using this
    unfold kv
    by_cases hk0 : k = 0
    · rw [if_pos hk0, h12, hk0, Nat.pow_zero, Nat.div_one, hok.2.1]
    · rw [if_neg hk0]
      show (w_si wb 1 10 (wb.1 1 10 + 1)).1 2 k = _
      rw [w_si_r (by decide), hb2, if_pos (by omega), w_si_r (by decide)]
      obtain ⟨j, rfl⟩ : ∃ j, k = j + 1 := ⟨k - 1, by omega⟩
      rw [hok.2.2 j (by omega), Nat.add_sub_cancel]
      show (w_si w1 2 0 (w1.1 1 12)).1 2 j = _
      have := hkv j (by omega)
      unfold kv at this
      by_cases hj : j = 0
      · subst hj
        rw [w_si_s]; simpa using this
      · rw [if_neg hj] at this
        rw [w_si_j hj, this]
  have hSc : St wc.1 := hS1.r1 (fun r h1 _ _ => hcr r (by omega) (by omega)) (fun i hi => by rw [hc1 i (by omega) (by omega), e1]) ⟨by rw [hmile]; have := (st_mile hS).1; omega, by rw [hmile]; omega⟩ (by rw [hc11]; exact warm_bd _ _ _ _) (by rw [hc1 13 (by decide) (by decide)]; exact st_hole hS) (fun k hk => by
    obtain ⟨n', h1, h2, h3⟩ := hKc
    rw [h3 k hk]
    exact nI_bd (b := 3) (Nat.le_of_lt_succ (Nat.mod_lt _ (by decide))) (by decide))
  -- the class's heap
  let ha := m_si h1 c 3 wn
  let hb' := m_si ha c 5 (nI ((4 * n + n % 4) % 16384))
  let hc := m_si hb' c 4 (w.1 1 10 + 1)
  have hhc : ∀ j, j ≠ 3 → j ≠ 4 → j ≠ 5 → m_i hc c j = m_i h1 c j := fun j h3 h4 h5 => by
    show m_i (m_si (m_si (m_si h1 c 3 wn) c 5 _) c 4 _) c j = _
    rw [m_i_sj h4, m_i_sj h5, m_i_sj h3]
  have hCc : Cab hc c t wc.1 := by
    refine hC1.sc (h' := hc) (st_N8 hS1) rfl rfl (fun a ha => ?_) (fun r h1 _ _ => hcr r (by omega) (by omega)) (fun i hi => by rw [hc1 i (by omega) (by omega), e1]) ?_ ?_ ?_ ?_
    · show m_i (m_si (m_si (m_si h1 c 3 wn) c 5 _) c 4 _) a = _
      rw [m_i_sb ha, m_i_sb ha, m_i_sb ha]
    · rw [hhc 2 (by decide) (by decide) (by decide), cab_i2 hC1, hc1 13 (by decide) (by decide), e1]
    · show m_i (m_si (m_si (m_si h1 c 3 wn) c 5 _) c 4 _) c 3 = _
      rw [m_i_sj (by decide), m_i_sj (by decide), m_i_ss, hc11]
    · show m_i (m_si (m_si (m_si h1 c 3 wn) c 5 _) c 4 _) c 4 = (w_si wb 1 10 (wb.1 1 10 + 1)).1 1 10
      rw [m_i_ss, w_si_s, hmile0]
    · show KV (m_i (m_si (m_si (m_si h1 c 3 wn) c 5 _) c 4 _) c 5) _
      rw [m_i_sj (by decide), m_i_ss]; exact hKc
  have enc : sN wc.1 = sN w.1 := by unfold sN; rw [hc1 6 (by decide) (by decide)]
  have hab : ∀ q, q < sN wc.1 → wc.1 10 q = if (wc.1 4 q).toInt ≤ (w.1 1 10).toInt ∧ (w.1 1 10).toInt < (wc.1 5 q).toInt then 1 else 0 := fun q hq => by
    rw [hcr 10 (by decide) (by decide), hcr 4 (by decide) (by decide), hcr 5 (by decide) (by decide), hW1 10 (by decide), hW1 4 (by decide), hW1 5 (by decide)]
    rw [enc] at hq
    rw [hA q hq]
    simp only [I_le, I_lt]
  obtain ⟨h2, wd, we, k1, k2, k3, k4, k5, k6, k7, k8, k9⟩ := change_both (G := G) (M := (w.1 1 10).toInt) hCc hSc hmile hab
  have ee1 : we.1 1 = wc.1 1 := k8 1 (by decide)
  have ee12 : we.1 12 = w1.1 12 := by rw [k8 12 (by decide), hcr 12 (by decide) (by decide)]
  refine ⟨h2, we, r, ?_, ?_, k4, k5, k6, fun q hq => ?_, ?_, fun k hk => ?_, ?_, fun i h1 h2 => ?_, ?_, ?_⟩
  · unfold f_X0_go
    rw [u_nn, on_n]; dsimp only; rw [u_ck (cab_t hC), f1, u_cb, u_ck (cab_t hC1), cab_0 hC1, u_ob, u_ck (tr_t hC1)]
    unfold f_X11_knobAgo
    rw [u_cb, u_ck (cab_t hC1), cab_0 hC1, u_ob, u_ck (tr_t hC1), cab_i4 hC1, c_coldAt hC1 hS1, u_cb, c_warmthAfter, u_cb, u_ck (cab_t hC1), u_nn, tr_i3 hC1, st_L hS1, hK, ago_e hn (by omega), cab_i3 hC1, cab_i2 hC1]
    unfold f_X11_aMileOlder
    rw [u_cb, m_i_sj (show 5 ≠ 3 by decide), hK, older_e hn, m_t_si, u_ck (cab_t hC1), u_nn, u_nn, m_i_sj (show 4 ≠ 5 by decide), m_i_sj (show 4 ≠ 3 by decide), cab_i4 hC1, show w1.1 1 10 + 1 = w.1 1 10 + 1 by rw [e1]]
    show ob (f_X0_changeRiders G c hc) _ = _
    rw [k1]; rfl
  · unfold p_X12_rolls
    rw [f2, u_ck ix_17_12, u_ck ix_7_0, u_nn, tn_0, tn_12, u_ck ix_17_11, u_ck ix_17_3]
    have hl3 : (w_si w1 2 0 (w1.1 1 12)).1 1 = w1.1 1 := w_si_r (by decide)
    rw [hl3, tn_3, st_L hS1, u_ck (u_ixn (by omega) (by decide)), u_ck ix_17_13, u_ck ix_17_10, tn_10, p_coldOf hSa, u_cw, p_warmer, u_cw, u_ck ix_17_11, u_nn, nI_clamp (by omega)]
    have hb' := hb
    rw [hka, hcold, tn_11, tn_13]
    unfold p_X12_knobMoves
    have h6 : lw1 (P_X12_knobMoves_3 G) bN 6 (w_si wa 1 11 wn) = some wb := hb
    rw [h6, u_ob, u_ck ix_17_10, u_ck ix_17_10, u_nn]
    show ob (p_X12_getOut G wc) _ = _
    rw [k2, u_ob, k3, u_ob]
  · have h6 : sN we.1 = sN w.1 := by unfold sN; rw [ee1, hc1 6 (by decide) (by decide)]
    rw [h6] at hq
    rw [k8 11 (by decide), hcr 11 (by decide) (by decide), ee1, hmile]
    have := (hb1 q hq).2
    rw [if_pos hq] at this
    exact this
  · refine (hF1.wk (fun a ha => by omega)).tr (Fr.tr (h1 := hc) ?_ (k7.wk (fun a ha => by omega)))
    exact ((Fr.si (by omega)).tr (Fr.si (by omega))).tr (Fr.si (by omega))
  · rw [k8 k (by omega), hcr k (by omega) (by omega), hW1 k (by omega)]
  · rw [k9]
    show wb.2 = w.2
    rw [hbl]; exact hl1
  · rw [ee1]; exact hc1 i h1 h2
  · rw [ee1]
    show (w_si wb 1 10 (wb.1 1 10 + 1)).1 1 10 = _
    rw [w_si_s, hmile0]
  · refine ⟨hc, wc, wd, hCc, hSc, hmile, hab, k2, k3, hc1, ?_, fun j => ?_, fun r q1 q2 q3 => by rw [hcr r (by omega) (by omega), hW1 r (by omega)]⟩
    · show (w_si wb 1 10 (wb.1 1 10 + 1)).1 1 10 = _
      rw [w_si_s, hmile0]
    · show (w_si wb 1 10 (wb.1 1 10 + 1)).1 2 j = _
      rw [w_si_r (by decide), hb2, w_si_r (by decide)]
      have ewa : wa.1 2 = (w_si w 2 0 (w.1 1 12)).1 2 := by
        funext i
        show (w_si w1 2 0 (w1.1 1 12)).1 2 i = _
        rw [w_si_e, w_si_e, e1, hW1 2 (by decide)]
      rw [ewa]
end
