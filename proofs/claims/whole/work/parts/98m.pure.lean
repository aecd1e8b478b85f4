/-! PURE 98m: swing, the reference; the call. -/
section
variable {G : GG} {own : Nat → Nat} {R X c t U n0 i j : Nat} {h h1 h2 h' : AH} {w w' w1 w2 w3 : MS} {v v' : VV} {s : Int32 × Nat} {x E : Int32}
def Slo (v : VV) (x : Int32) (n0 : Nat) (E : Int32) (i : Nat) (w : MS) : Prop := SwR 75 76 73 v x n0 E i w
def Fas (v : VV) (x : Int32) (n0 : Nat) (E : Int32) (i : Nat) (w : MS) : Prop := SwR 77 78 74 v x n0 E i w
theorem SwR.cg {wm kn row : Nat} (a : SwR wm kn row v x n0 E i w) (e1 : w'.1 0 wm = w.1 0 wm) (e2 : w'.1 0 kn = w.1 0 kn) (e3 : w'.1 row = w.1 row) : SwR wm kn row v x n0 E i w' := by
  unfold SwR at a ⊢; rw [e1, e2, e3]; exact a
theorem p_slow (hS : St v) (h1 : w.1 1 = v 1) (hn : n0 < 16384) (a : Slo v x n0 E i w) (b : Fas v x n0 E j w) : ∃ w', p_X12_slowGoes G x w = some w' ∧ Slo v x n0 E (i + 1) w' ∧ Fas v x n0 E j w' ∧ w'.1 1 = v 1 ∧ SwF w w' := by
  obtain ⟨w5, q1, -, -⟩ := p_pushes (G := G) (r := 73) rfl rfl (if (swV v x n0 i).1 = x then nI ((swV v x n0 i).2 % 4) else if x ≤ (swV v x n0 i).1 then 0 else 3) (w_si w 0 76 (if (swV v x n0 i).1 = x then nI ((swV v x n0 i).2 % 4) else if x ≤ (swV v x n0 i).1 then 0 else 3))
  obtain ⟨g1, g2, g3, g4, g5⟩ := goes_p (G := G) hS h1 hn a (Or.inl rfl) (by decide) q1
  refine ⟨_, ?_, g2, b.cg (g4 77 (by decide) (by decide)) (g4 78 (by decide) (by decide)) (g5 74 (by decide) (by decide)), by rw [g5 1 (by decide) (by decide)]; exact h1, g3⟩
  unfold p_X12_slowGoes
  rw [a.1, a.2.1, p_knobFor, u_cw, u_nn, w_si_s, q1, u_ob, u_ck ix_17_3, tn_3, u_ck g1, u_ck ix_17_13, tn_13, p_warmer, u_cw, u_nn]
theorem p_fast (hS : St v) (h1 : w.1 1 = v 1) (hn : n0 < 16384) (a : Slo v x n0 E i w) (b : Fas v x n0 E j w) : ∃ w', p_X12_fastGoes G x w = some w' ∧ Slo v x n0 E i w' ∧ Fas v x n0 E (j + 1) w' ∧ w'.1 1 = v 1 ∧ SwF w w' := by
  obtain ⟨w5, q1, -, -⟩ := p_pushes (G := G) (r := 74) rfl rfl (if (swV v x n0 j).1 = x then nI ((swV v x n0 j).2 % 4) else if x ≤ (swV v x n0 j).1 then 0 else 3) (w_si w 0 78 (if (swV v x n0 j).1 = x then nI ((swV v x n0 j).2 % 4) else if x ≤ (swV v x n0 j).1 then 0 else 3))
  obtain ⟨g1, g2, g3, g4, g5⟩ := goes_p (G := G) hS h1 hn b (Or.inr rfl) (by decide) q1
  refine ⟨_, ?_, a.cg (g4 75 (by decide) (by decide)) (g4 76 (by decide) (by decide)) (g5 73 (by decide) (by decide)), g2, by rw [g5 1 (by decide) (by decide)]; exact h1, g3⟩
  unfold p_X12_fastGoes
  rw [b.1, b.2.1, p_knobFor, u_cw, u_nn, w_si_s, q1, u_ob, u_ck ix_17_3, tn_3, u_ck g1, u_ck ix_17_13, tn_13, p_warmer, u_cw, u_nn]
theorem p_met (hS : St v) (hn : n0 < 16384) (a : Slo v x n0 E i w) (b : Fas v x n0 E j w) : (p_X12_isMet G w = some (1, w) ∧ swV v x n0 i = swV v x n0 j) ∨ (p_X12_isMet G w = some (0, w) ∧ ¬ (swV v x n0 i = swV v x n0 j ∧ w.1 73 6 = w.1 74 6)) := by
  have ok := sw_ok (L := sL v) (H := v 1 13) (x := x) (s := (v 1 11, n0)) ⟨st_warm hS, hn⟩
  have oki : (swV v x n0 i).2 < 16384 := (ok i).2
  have okj : (swV v x n0 j).2 < 16384 := (ok j).2
  have f4 : ∀ m : Nat, m % 4 < 2 ^ 31 := fun m => by omega
  unfold p_X12_isMet
  rw [a.1, b.1, a.2.1, b.2.1]
  by_cases z1 : (swV v x n0 i).1 = (swV v x n0 j).1
  · rw [if_pos z1]
    by_cases z2 : nI ((swV v x n0 i).2 % 4) = nI ((swV v x n0 j).2 % 4)
    · rw [if_pos z2]
      have hl := lw1_ff (F := P_X12_isMet_26 G) (h := w) (N := 7) (fun k => decide (w.1 73 k ≠ w.1 74 k)) (fun _ => some (0, w)) (some (1, w))
        (fun self => by rw [P_X12_isMet_26, if_pos (show (7 : Int32) ≤ nI 7 from nI_le (a := 7) (by omega) (by omega))])
        (fun self k hk hp => by rw [P_X12_isMet_26, if_neg (show ¬ (7 : Int32) ≤ nI k from nI_ge (b := 7) (by omega) (by omega)), u_ck (u_ixn hk (by decide)), u_ck (u_ixn hk (by decide)), nI_clamp (by omega), if_neg (of_decide_eq_true hp)])
        (fun self k hk hp => by rw [P_X12_isMet_26, if_neg (show ¬ (7 : Int32) ≤ nI k from nI_ge (b := 7) (by omega) (by omega)), u_ck (u_ixn hk (by decide)), u_ck (u_ixn hk (by decide)), nI_clamp (by omega), if_pos (Classical.byContradiction fun q => of_decide_eq_false hp q), u_nn])
        (d := 7) (n := bN) (k := 0) rfl (bN_gt (by decide))
      have hl' : lw1 (P_X12_isMet_26 G) bN (0 : Int32) w = _ := hl
      rw [hl']
      cases hff : ff (fun k => decide (w.1 73 k ≠ w.1 74 k)) 7 0 with
      | none =>
        refine Or.inl ⟨rfl, Prod.ext z1 ?_⟩
        have e : ∀ k, k < 6 → (swV v x n0 i).2 / 4 ^ (k + 1) % 4 = (swV v x n0 j).2 / 4 ^ (k + 1) % 4 := fun k hk => by
          have := of_decide_eq_false (ff_none hff k (by omega) (by omega))
          have e := Classical.byContradiction this
          rw [a.2.2.1 k hk, b.2.2.1 k hk] at e
          exact (nI_eq (f4 _) (f4 _)).mp e
        have d0 := (nI_eq (f4 _) (f4 _)).mp z2
        have d1 := e 0 (by decide)
        have d2 := e 1 (by decide)
        have d3 := e 2 (by decide)
        have d4 := e 3 (by decide)
        have d5 := e 4 (by decide)
        have d6 := e 5 (by decide)
        simp only [Nat.zero_add, Nat.reduceAdd, Nat.reducePow] at d1 d2 d3 d4 d5 d6
        omega
      | some k =>
        refine Or.inr ⟨rfl, fun q => ?_⟩
        obtain ⟨-, k1, k2, -⟩ := ff_some hff
        have k2' := of_decide_eq_true k2
        by_cases z : k = 6
        · subst z; exact k2' q.2
        · exact k2' (by rw [a.2.2.1 k (by omega), b.2.2.1 k (by omega), q.1])
    · rw [if_neg z2]
      exact Or.inr ⟨rfl, fun q => z2 (by rw [q.1])⟩
  · rw [if_neg z1]
    exact Or.inr ⟨rfl, fun q => z1 (by rw [q.1])⟩
theorem meet_loop (hS : St v) (hn : n0 < 16384) {nu : Nat} (m1 : swV v x n0 nu = swV v x n0 (2 * nu)) (m2 : swV v x n0 (nu - 1) = swV v x n0 (2 * nu - 1)) : ∀ (d i n : Nat) (w' : MS), i + d = nu → d < n → 1 ≤ i → Slo v x n0 E i w' → Fas v x n0 E (2 * i) w' → w'.1 1 = v 1 → SwF w w' → ∃ i' w2, 1 ≤ i' ∧ i' ≤ nu ∧ Slo v x n0 E i' w2 ∧ Fas v x n0 E (2 * i') w2 ∧ w2.1 1 = v 1 ∧ SwF w w2 ∧ swV v x n0 i' = swV v x n0 (2 * i') ∧ ∀ K, lw0 (P_X12_swing_136 G x K) n w' = K w2
  | d, i, n + 1, w', e, hd, hi, a, b, h1, hF => by
    rcases p_met (G := G) hS hn a b with ⟨q1, q2⟩ | ⟨q1, q2⟩
    · refine ⟨i, w', hi, by omega, a, b, h1, hF, q2, fun K => ?_⟩
      show P_X12_swing_136 G x K _ _ = _
      rw [P_X12_swing_136, q1, u_cw, if_neg n10]
    · cases d with
      | zero =>
        have : i = nu := by omega
        subst this
        refine absurd ⟨m1, ?_⟩ q2
        rw [a.2.2.2, b.2.2.2, if_neg (by omega), if_neg (by omega), m2]
      | succ d =>
        obtain ⟨wa, a1, a2, a3, a4, a5⟩ := p_slow (G := G) hS h1 hn a b
        obtain ⟨wb, b1, b2, b3, b4, b5⟩ := p_fast (G := G) hS a4 hn a2 a3
        obtain ⟨wc, c1, c2, c3, c4, c5⟩ := p_fast (G := G) hS b4 hn b2 b3
        obtain ⟨i', w2, r1, r2, r3, r4, r5, r6, r7, r8⟩ := meet_loop hS hn m1 m2 d (i + 1) n wc (by omega) (by omega) (by omega) c2 (by rw [show 2 * (i + 1) = 2 * i + 1 + 1 by omega]; exact c3) c4 (((hF.tr a5).tr b5).tr c5)
        refine ⟨i', w2, r1, r2, r3, r4, r5, r6, r7, fun K => ?_⟩
        show P_X12_swing_136 G x K _ _ = _
        rw [P_X12_swing_136, q1, u_cw, if_pos rfl, a1, u_ob, b1, u_ob, c1, u_ob]
        exact r8 K
theorem round_loop (hS : St v) (hn : n0 < 16384) {i J : Nat} (hm : swV v x n0 i = swV v x n0 J) : ∀ (d k n : Nat) (w' : MS) (M m : Int32), k + d = J → d < n → i < k → Slo v x n0 E k w' → Fas v x n0 E J w' → w'.1 1 = v 1 → SwF w w' → MxO (fun i => (swV v x n0 i).1) i k M → MnO (fun i => (swV v x n0 i).1) i k m → ∃ M' m' w2, Top (fun i => (swV v x n0 i).1) M' ∧ Bot (fun i => (swV v x n0 i).1) m' ∧ SwF w w2 ∧ lw2 (P_X12_swing_176 G x) n M m w' = some (M' - m', w2)
  | d, k, n + 1, w', M, m, e, hd, hi, a, b, h1, hF, hM, hm' => by
    rcases p_met (G := G) hS hn a b with ⟨q1, q2⟩ | ⟨q1, q2⟩
    · obtain ⟨p, hp⟩ : ∃ p, k = i + p := ⟨k - i, by omega⟩
      have es : swV v x n0 (i + p) = swV v x n0 i := by rw [← hp, q2, hm]
      refine ⟨M, m, w', MxO.top (a := i) (p := p) (by omega) es (by rw [← hp]; exact hM), MnO.bot (a := i) (p := p) (by omega) es (by rw [← hp]; exact hm'), hF, ?_⟩
      show P_X12_swing_176 G x _ _ _ _ = _
      rw [P_X12_swing_176, q1, u_cw, if_neg n10]
    · cases d with
      | zero =>
        have : k = J := by omega
        subst this
        refine absurd ⟨rfl, ?_⟩ q2
        rw [a.2.2.2, b.2.2.2]
      | succ d =>
        obtain ⟨wa, a1, a2, a3, a4, a5⟩ := p_slow (G := G) hS h1 hn a b
        obtain ⟨M', m', w2, r1, r2, r3, r4⟩ := round_loop hS hn hm d (k + 1) n wa _ _ (by omega) (by omega) (by omega) a2 a3 a4 (hF.tr a5) (hM.up (by omega)) (hm'.up (by omega))
        refine ⟨M', m', w2, r1, r2, r3, ?_⟩
        show P_X12_swing_176 G x _ _ _ _ = _
        rw [P_X12_swing_176, q1, u_cw, if_pos rfl, u_nn, a.1]
        have r4' : lw2 (P_X12_swing_176 G x) n (if M < (swV v x n0 k).1 then (swV v x n0 k).1 else M) (if (swV v x n0 k).1 < m then (swV v x n0 k).1 else m) wa = some (M' - m', w2) := r4
        rw [if_nlt, if_nlt] at r4'
        by_cases z : (swV v x n0 k).1 ≤ M
        · rw [if_pos z] at r4' ⊢
          dsimp only
          rw [u_nn]
          by_cases y : m ≤ (swV v x n0 k).1
          · rw [if_pos y] at r4'
            rw [if_pos y]; dsimp only; rw [a1, u_ob]; exact r4'
          · rw [if_neg y] at r4'
            rw [if_neg y]; dsimp only; rw [a1, u_ob]; exact r4'
        · rw [if_neg z] at r4' ⊢
          dsimp only
          rw [u_nn]
          by_cases y : m ≤ (swV v x n0 k).1
          · rw [if_pos y] at r4'
            rw [if_pos y]; dsimp only; rw [a1, u_ob]; exact r4'
          · rw [if_neg y] at r4'
            rw [if_neg y]; dsimp only; rw [a1, u_ob]; exact r4'
theorem lays_at (x : Int32) : ∀ (d k n : Nat) (w : MS), k + d = 7 → d < n → ∃ w', (∀ K, lw1 (P_X12_swing_23 G x K) n (nI k) w = K w') ∧ (∀ j, k ≤ j → j < 7 → w'.1 73 j = w.1 2 (if j < 6 then j + 1 else 6)) ∧ (∀ j, j < k → w'.1 73 j = w.1 73 j) ∧ Fw (fun r => r = 73) w w'
  | 0, k, n + 1, w, e, _ => by
    refine ⟨w, fun K => ?_, fun j h1 h2 => by omega, fun _ _ => rfl, Fw.rf⟩
    show P_X12_swing_23 G x K _ _ _ = _
    rw [P_X12_swing_23, if_pos (show (7 : Int32) ≤ nI k from nI_le (a := 7) (by omega) (by omega))]
  | d + 1, k, n + 1, w, e, hd => by
    obtain ⟨w', a1, a2, a3, a4⟩ := lays_at x d (k + 1) n (w_si w 73 k (w.1 2 (if k < 6 then k + 1 else 6))) (by omega) (by omega)
    refine ⟨w', fun K => ?_, fun j h1 h2 => ?_, fun j hj => by rw [a3 j (by omega), w_si_j (by omega)], fun r hr => by rw [a4 r hr, w_si_r hr]⟩
    · show P_X12_swing_23 G x K _ _ _ = _
      rw [P_X12_swing_23, if_neg (show ¬ (7 : Int32) ≤ nI k from nI_ge (b := 7) (by omega) (by omega)), u_nn, nI_1]
      by_cases z : k < 6
      · have a1' := a1 K
        rw [if_pos z] at a1'
        rw [if_neg (show ¬ (7 : Int32) ≤ nI (k + 1) from nI_ge (b := 7) (by omega) (by omega)), u_ck (u_ixn (by omega) (by decide))]; dsimp only; rw [u_ck (u_ixn (by omega) (by decide)), u_nn, u_nn, nI_clamp (show k < 2 ^ 31 by omega), nI_clamp (show k + 1 < 2 ^ 31 by omega)]
        exact a1'
      · have e6 : k = 6 := by omega
        subst e6
        have a1' := a1 K
        rw [if_neg (by decide)] at a1'
        rw [if_pos (show (7 : Int32) ≤ nI (6 + 1) from nI_le (a := 7) (by omega) (by omega)), u_ck (u_ixn (by omega) (by decide))]; dsimp only; rw [u_ck (u_ixn (by omega) (by decide)), u_nn, u_nn, nI_clamp (show 6 < 2 ^ 31 by omega)]
        exact a1'
    · by_cases z : j = k
      · subst z; rw [a3 j (by omega), w_si_s]
      · rw [a2 j (by omega) h2, w_si_r (by decide)]
theorem call_swing (x : Int32) : Call X (f_X11_swing G X x) (p_X12_swing G x) := by
  intro h w ⟨own, R, hR⟩
  obtain ⟨U, c, t, hc⟩ := hR.cur
  have hB := hc.1
  have hS := hc.2.1.1
  unfold f_X11_swing p_X12_swing
  rw [u_ck hB.1.1, c_hasTrain hB hS, u_cb, p_isTrain hS, u_cw]
  rcases told01 hS with q | q
  · rw [q, if_pos rfl, if_pos rfl]; exact stay hR _
  rw [q, if_neg n10, if_neg n10, p_in60, u_cw, c_isWarmth, u_cb]
  by_cases hx : 0 ≤ x ∧ x ≤ 60
  rotate_left
  · rw [if_neg hx, if_pos rfl, if_pos rfl]; exact stay hR _
  rw [if_pos hx, if_neg n10, if_neg n10]
  obtain ⟨hC, hCa⟩ := hc.2.2.1.cab q
  have hG := hR.1.2.2.2.2.2.2.1
  have r10 : m_r h X 10 = some (X + 54) := hR.1.1.2.2.2.2.2.2.2.2.2.2.1
  obtain ⟨n0, hn, hK, hkv⟩ := cab_i5 hC
  obtain ⟨g, l, f1, f2, f3⟩ := c_swingFor (G := G) (x := x) hC hS hn hK (X + 54)
  -- the reference
  obtain ⟨wa, a1, a2, -, a4⟩ := lays_at (G := G) x 7 0 bN w rfl (bN_gt (by decide))
  obtain ⟨wb, b1, b2, -, b4⟩ := p_copies (G := G) (a := 73) (b := 74) rfl rfl (by decide) rfl (by decide) wa
  have e1 : wb.1 1 = w.1 1 := by rw [b2 1 (by decide), a4 1 (by decide)]
  have e73 : wb.1 73 = wa.1 73 := b2 73 (by decide)
  have e0 : wb.1 0 = w.1 0 := by rw [b2 0 (by decide), a4 0 (by decide)]
  have k1 : ∀ k, 1 ≤ k → k < 7 → w.1 2 k = nI (n0 / 4 ^ k % 4) := fun k q1 q2 => by
    have := hkv k q2
    unfold kv at this
    rw [if_neg (by omega)] at this
    exact this
  have k0 : w.1 1 12 = nI (n0 % 4) := by
    have := hkv 0 (by decide)
    unfold kv at this
    rw [if_pos rfl, Nat.pow_zero, Nat.div_one] at this
    exact this
  have row : ∀ k, k < 6 → wa.1 73 k = nI (n0 / 4 ^ (k + 1) % 4) := fun k hk => by
    rw [a2 k (by omega) (by omega), if_pos hk]; exact k1 (k + 1) (by omega) (by omega)
  have row6 : wa.1 73 6 = w.1 2 6 := a2 6 (by decide) (by decide)
  have row74 : ∀ k, k < 7 → wb.1 74 k = wa.1 73 k := fun k hk => by rw [b4, if_pos (show k < mln 73 from hk)]
  have hI0 : Slo w.1 x n0 (w.1 2 6) 0 (w_si (w_si (w_si (w_si wb 0 75 (w.1 1 11)) 0 77 (w.1 1 11)) 0 76 (w.1 1 12)) 0 78 (w.1 1 12)) := by
    refine ⟨?_, ?_, fun k hk => ?_, ?_⟩
    · rw [w_si_j (by decide), w_si_j (by decide), w_si_j (by decide), w_si_s]; rfl
    · rw [w_si_j (by decide), w_si_s, k0]; rfl
    · rw [w_si_r (by decide), w_si_r (by decide), w_si_r (by decide), w_si_r (by decide), e73, row k hk]; rfl
    · rw [w_si_r (by decide), w_si_r (by decide), w_si_r (by decide), w_si_r (by decide), e73, row6]; rfl
  have hJ0 : Fas w.1 x n0 (w.1 2 6) 0 (w_si (w_si (w_si (w_si wb 0 75 (w.1 1 11)) 0 77 (w.1 1 11)) 0 76 (w.1 1 12)) 0 78 (w.1 1 12)) := by
    refine ⟨?_, ?_, fun k hk => ?_, ?_⟩
    · rw [w_si_j (by decide), w_si_j (by decide), w_si_s]; rfl
    · rw [w_si_s, k0]; rfl
    · rw [w_si_r (by decide), w_si_r (by decide), w_si_r (by decide), w_si_r (by decide), row74 k (by omega), row k hk]; rfl
    · rw [w_si_r (by decide), w_si_r (by decide), w_si_r (by decide), w_si_r (by decide), row74 6 (by decide), row6]; rfl
  have hF0 : SwF w (w_si (w_si (w_si (w_si wb 0 75 (w.1 1 11)) 0 77 (w.1 1 11)) 0 76 (w.1 1 12)) 0 78 (w.1 1 12)) := ⟨fun r q1 q2 q3 => by rw [w_si_r q1, w_si_r q1, w_si_r q1, w_si_r q1, b2 r (by omega), a4 r q2], fun k hk => by rw [w_si_j (by omega), w_si_j (by omega), w_si_j (by omega), w_si_j (by omega), e0]⟩
  have h10 : (w_si (w_si (w_si (w_si wb 0 75 (w.1 1 11)) 0 77 (w.1 1 11)) 0 76 (w.1 1 12)) 0 78 (w.1 1 12)).1 1 = w.1 1 := hF0.1 1 (by decide) (by decide) (by decide)
  obtain ⟨wc, c1, c2, c3, c4, c5⟩ := p_slow (G := G) hS h10 hn hI0 hJ0
  obtain ⟨wd, d1, d2, d3, d4, d5⟩ := p_fast (G := G) hS c4 hn c2 c3
  obtain ⟨we, g1, g2, g3, g4, g5⟩ := p_fast (G := G) hS d4 hn d2 d3
  obtain ⟨a, p, hp, hap, hr⟩ := sw_round (L := sL w.1) (H := w.1 1 13) (x := x) (s := (w.1 1 11, n0)) ⟨st_warm hS, hn⟩
  have hmod := Nat.mod_lt (a + p) hp
  have hdm := Nat.mod_add_div (a + p) p
  have hmul : (a + p) / p * p = p * ((a + p) / p) := Nat.mul_comm _ _
  have m1 : swV w.1 x n0 (p * ((a + p) / p)) = swV w.1 x n0 (2 * (p * ((a + p) / p))) := by
    have := sw_pk hr (p * ((a + p) / p) - a) ((a + p) / p)
    rw [hmul, show a + (p * ((a + p) / p) - a) + p * ((a + p) / p) = 2 * (p * ((a + p) / p)) by omega, show a + (p * ((a + p) / p) - a) = p * ((a + p) / p) by omega] at this
    exact this.symm
  have m2 : swV w.1 x n0 (p * ((a + p) / p) - 1) = swV w.1 x n0 (2 * (p * ((a + p) / p)) - 1) := by
    have := sw_pk hr (p * ((a + p) / p) - 1 - a) ((a + p) / p)
    rw [hmul, show a + (p * ((a + p) / p) - 1 - a) + p * ((a + p) / p) = 2 * (p * ((a + p) / p)) - 1 by omega, show a + (p * ((a + p) / p) - 1 - a) = p * ((a + p) / p) - 1 by omega] at this
    exact this.symm
  obtain ⟨i', wf, r1, r1', r2, r3, r4, r5, r6, r7⟩ := meet_loop (G := G) hS hn m1 m2 (p * ((a + p) / p) - 1) 1 bN we (by omega) (by unfold bN; omega) (Nat.le_refl _) g2 g3 g4 (((hF0.tr c5).tr d5).tr g5)
  obtain ⟨wg, s1, s2, s3, s4, s5⟩ := p_slow (G := G) hS r4 hn r2 r3
  obtain ⟨M', m', wh, t1, t2, t3, t4⟩ := round_loop (G := G) hS hn r6 (i' - 1) (i' + 1) bN wg _ _ (by omega) (by unfold bN; omega) (by omega) s2 s3 s4 (r5.tr s5) (MxO.one (fun i => (swV w.1 x n0 i).1) i') (MnO.one (fun i => (swV w.1 x n0 i).1) i')
  have eM := f2.un t1
  have em := f3.un t2
  subst eM em
  have hW : WQ w wh := ⟨PW.of (fun r q1 q2 => t3.1 r (by omega) (by omega) (by omega)), fun k hk => t3.2 k (by omega), fun r hr => t3.1 r (by omega) (by omega) (by omega), fun j _ => by rw [t3.1 81 (by decide) (by decide) (by decide)]⟩
  refine ⟨g - l, h, wh, ?_, ?_, ⟨own, R, hR.wq hW⟩, Kp.rf⟩
  · rw [u_ck hB.1.1, r10, u_ob, hB.1.2.1, u_ob, u_ck hB.1.2.2.1, hB.1.2.2.2.1, u_ob, u_ck hG.1, f1, u_cb]
  · refine (a1 _).trans ?_
    rw [b1, u_ob, u_ck ix_17_11, u_nn, tn_11, e1, u_ck ix_17_11, u_nn, w_si_r (by decide), e1, u_ck ix_17_12, u_nn, tn_12, w_si_r (by decide), w_si_r (by decide), e1, u_ck ix_17_12, u_nn, w_si_r (by decide), w_si_r (by decide), w_si_r (by decide), e1, c1, u_ob, d1, u_ob, g1, u_ob]
    refine (r7 _).trans ?_
    rw [u_nn, u_nn, s1, u_ob, r2.1]
    exact t4
end
