/-! PURE 99p: both read the text of a train. -/
section
variable {G : GG} {X t N k n j p q : Nat} {T : Nat → Nat} {h h' h1 h2 : AH} {w w' w1 w2 wr wr' : MS} {wl : List (List Nat)} {f : Int32}
/-- the bytes of the text -/
def bt (w : MS) (i : Nat) : Nat := (w.1 42 i &&& 255).toNatClampNeg
theorem bt_ok {i : Nat} (h : (w.1 42 i).toInt8.toInt32 = w.1 42 i) : w.1 42 i &&& 255 = nI (bt w i) ∧ bt w i < 256 ∧ (w.1 42 i).toInt = if bt w i < 128 then (bt w i : Int) else (bt w i : Int) - 256 := by
  obtain ⟨t, t1, t2, t3⟩ := by_one h
  have : bt w i = t := by unfold bt; rw [t2]; exact nI_clamp (by omega)
  rw [this]; exact ⟨t2, t1, t3⟩
theorem z_loop : ∀ (d j n : Nat) (w : MS), j + d = 10 → d < n → ∃ w', (∀ K, lw1 (P_X12_readsAll_6 G K) n (nI j) w = K w') ∧ (∀ r, r ≠ 20 → w'.1 r = w.1 r) ∧ ∀ i, w'.1 20 i = if j ≤ i ∧ i < 10 then 0 else w.1 20 i
  | 0, j, n + 1, w, e, _ => by
    refine ⟨w, fun K => ?_, fun _ _ => rfl, fun i => by rw [if_neg (by omega)]⟩
    show P_X12_readsAll_6 G K _ _ _ = _
    rw [P_X12_readsAll_6, if_pos (show (10 : Int32) ≤ nI j from nI_le (a := 10) (by omega) (by omega))]
  | d + 1, j, n + 1, w, e, hn => by
    obtain ⟨w', a1, a2, a3⟩ := z_loop d (j + 1) n (w_si w 20 j 0) (by omega) (by omega)
    refine ⟨w', fun K => ?_, fun r hr => (a2 r hr).trans (w_si_r hr), fun i => ?_⟩
    · show P_X12_readsAll_6 G K _ _ _ = _
      rw [P_X12_readsAll_6, if_neg (show ¬ (10 : Int32) ≤ nI j from nI_ge (b := 10) (by omega) (by omega)), u_ck (u_ixn (by omega) (by decide)), u_nn, nI_1, u_nn, nI_clamp (by omega)]
      exact a1 K
    · rw [a3, w_si_e]
      by_cases z : i = j
      · subst z
        rw [if_neg (by omega), if_pos ⟨rfl, rfl⟩, if_pos (by omega)]
      · rw [if_neg (show ¬ (20 = 20 ∧ i = j) from fun q => z q.2)]
        by_cases y : j ≤ i ∧ i < 10
        · rw [if_pos (show j + 1 ≤ i ∧ i < 10 by omega), if_pos y]
        · rw [if_neg (show ¬ (j + 1 ≤ i ∧ i < 10) by omega), if_neg y]
theorem TD.s0 (hd : TD h X t w) (hX : X + 122 ≤ t) : TD (m_si h t 0 1) X t w := by
  obtain ⟨s, n, a, b, c, g, u, q⟩ := hd
  have e : ∀ a, a ≠ t → m_i (m_si h t 0 1) a = m_i h a := fun a ha => m_i_sb ha
  have e' : ∀ j, j ≠ 0 → m_i (m_si h t 0 1) t j = m_i h t j := fun j hj => m_i_sj hj
  refine ⟨?_, n, a, b, ?_, ⟨g.1, fun i hi => ?_, fun i p1 p2 => ?_⟩, ⟨fun i hi => ?_, fun i hi => ?_⟩, fun i hi => ?_⟩
  · unfold TDs at s ⊢; rw [e' 1 (by decide), e' 2 (by decide), e' 3 (by decide), e' 4 (by decide), e _ (by omega)]; exact s
  · unfold TDc at c ⊢; rw [e' 5 (by decide), e' 7 (by decide), e' 10 (by decide)]; exact c
  · rw [e _ (by omega)]; exact g.2.1 i hi
  · rw [e _ (by omega)]; exact g.2.2 i p1 p2
  · rw [e _ (by omega), e _ (by omega)]; exact u.1 i hi
  · rw [e _ (by omega), e _ (by omega), e _ (by omega)]; exact u.2 i hi
  · have := q i hi
    unfold TDq at this ⊢
    rw [e _ (by omega)]; exact this
/-- the cells that a reader changes -/
def RdC (X a : Nat) : Prop := a = X + 1 ∨ a = X + 3 ∨ a = X + 4 ∨ a = X + 5 ∨ a = X + 6
def TrR (X : Nat) (h : AH) (w : MS) (h' : AH) (w' : MS) : Prop := RI h' (X + 1) ∧ m_i h' (X + 1) 9 = w'.1 0 34 ∧ w'.1 0 32 = 0 ∧ FO (w'.1 0 34) ∧ m_n h' = m_n h + 15 ∧ (∀ a, a < m_n h → m_t h' a = m_t h a ∧ m_r h' a = m_r h a ∧ (¬ RdC X a → m_i h' a = m_i h a ∧ m_l h' a = m_l h a)) ∧ TrS h' (m_n h) ∧ (∀ r, (r ≠ 0 ∧ r < 20) ∨ 31 < r → w'.1 r = w.1 r) ∧ (∀ j, ¬ (32 ≤ j ∧ j < 40 ∧ j ≠ 36) → w'.1 0 j = w.1 0 j) ∧ w'.1 0 36 = w.1 0 36 ∧ (w'.1 0 34 = 0 → TD h' X (m_n h) w' ∧ w'.1 20 0 = 1 ∧ m_i h' (m_n h) 0 = 1)
theorem train_read (hG : GI G) (hS : GS h X) (hTa : TaR h X w) : ∃ h' w', f_X10_readTrain G (X + 6) h = some (if w'.1 0 34 = 0 then some (m_n h) else none, h') ∧ p_X12_readsAll G w = some w' ∧ TrR X h w h' w' := by
  have hX : X + 122 ≤ m_n h := hS.2.2.2.2.2.2.2
  obtain ⟨N, hN, ta1, ta2, ta3⟩ := hTa
  obtain ⟨m, hm⟩ : ∃ m, bN = m + 1 := ⟨bN - 1, by have := bN_gt (d := 0) (by decide); omega⟩
  have m41 : 40 < m := by have := bN_gt (d := 50) (by decide); omega
  -- the reference begins
  have ref0 : ∃ ws, p_X12_readsAll G w = lw2 (P_X12_readsAll_29 G) bN (0 : Int32) (1 : Int32) ws ∧ (∀ r, r ≠ 0 → r ≠ 20 → ws.1 r = w.1 r) ∧ (∀ j, ¬ (33 ≤ j ∧ j < 40 ∧ j ≠ 36) → ws.1 0 j = w.1 0 j) ∧ ws.1 0 36 = w.1 0 36 ∧ ws.1 0 33 = 0 ∧ ws.1 0 34 = 0 ∧ ∀ i, i < 10 → ws.1 20 i = 0 := by
    obtain ⟨ws, a1, a2, a3⟩ := z_loop (G := G) 10 0 bN (w_si (w_si (w_si (w_si (w_si w 0 33 0) 0 34 0) 0 37 0) 0 38 0) 0 39 0) rfl (bN_gt (by decide))
    refine ⟨ws, ?_, fun r q1 q2 => ?_, fun j hj => ?_, ?_, ?_, ?_, fun i hi => ?_⟩
    · unfold p_X12_readsAll p_X12_starts
      rw [u_nn, u_nn, u_nn, u_nn, u_nn, u_ob]
      exact a1 _
    · rw [a2 r q2, w_si_r q1, w_si_r q1, w_si_r q1, w_si_r q1, w_si_r q1]
    · rw [a2 0 (by decide), w_si_j (by omega), w_si_j (by omega), w_si_j (by omega), w_si_j (by omega), w_si_j (by omega)]
    · rw [a2 0 (by decide), w_si_j (by decide), w_si_j (by decide), w_si_j (by decide), w_si_j (by decide), w_si_j (by decide)]
    · rw [a2 0 (by decide), w_si_j (by decide), w_si_j (by decide), w_si_j (by decide), w_si_j (by decide), w_si_s]
    · rw [a2 0 (by decide), w_si_j (by decide), w_si_j (by decide), w_si_j (by decide), w_si_s]
    · rw [a3, if_pos (by omega)]
  obtain ⟨ws, b1, b2, b3, b36, b4, b5, b6⟩ := ref0
  -- the class begins
  obtain ⟨hi, c1, c2⟩ := c_trinit (G := G) h
  obtain ⟨i1, i2, i3, i4, i5, i6⟩ := id c2
  have hRI0 : RI hi (X + 1) := ⟨fun q hq => by
      have : q.1 < 8 := by simp [rT] at hq; rcases hq with rfl | rfl | rfl | rfl | rfl | rfl | rfl | rfl <;> decide
      rw [(i2 _ (by omega)).1]; exact hS.2.1.1 q hq, fun q hq => by
      have : q.1 < 8 := by revert hq; revert q; decide
      rw [(i2 _ (by omega)).2.1]; exact hS.2.1.2 q hq⟩
  have hRI : RI (m_si hi (X + 6) 1 0) (X + 1) := hRI0.cg rfl rfl
  obtain ⟨p1, p2, p3⟩ := rd6 hRI0
  have hTx : TxC N (bt w) (rs_of (m_si hi (X + 6) 1 0) (X + 1)) := by
    refine ⟨hN, ?_, fun i hi' => ?_⟩
    · show m_i (m_si hi (X + 6) 1 0) (X + 1) 1 = _
      rw [m_i_sb (by omega), (i2 _ (by omega)).2.2.1]; exact ta2
    · show m_i (m_si hi (X + 6) 1 0) (X + 2) i &&& 255 = _ ∧ _
      rw [m_i_sb (by omega), (i2 _ (by omega)).2.2.1, (ta3 i hi').1]
      have := bt_ok (ta3 i hi').2
      exact ⟨this.1, this.2.1⟩
  obtain ⟨wr', d1, d2, d3, d4, d5⟩ := q_open (G := G) hG wt_T hTx
  have op := lrv_e (P := s_X8_open G (G.2.2.2.1 0)) hRI d1
  have oi : ∀ a, m_i (rh (m_si hi (X + 6) 1 0) (X + 1) wr') a = if X + 1 ≤ a ∧ a < X + 1 + 8 then wr'.1 (a - (X + 1)) else m_i (m_si hi (X + 6) 1 0) a := fun a => rfl
  have hw42 : ws.1 42 = w.1 42 := b2 42 (by decide) (by decide)
  have hTW : TxW N (bt w) ws := by
    refine ⟨hN, by rw [b3 32 (by omega)]; exact ta1, fun i hi' => ?_⟩
    rw [hw42]; exact bt_ok (ta3 i hi').2
  have hsy : SyH wlT N (bt w) X (rh (m_si hi (X + 6) 1 0) (X + 1) wr') ws 0 0 := by
    refine ⟨hRI.cg rfl rfl, Syn.cg (wr := wr') ⟨d2, d4, d3, hTW, b5, 0, b4, ⟨by decide, FO_0⟩, fun _ => ⟨Nat.zero_le _, fun j _ q2 => tk_first j q2⟩⟩ (fun r hr => ?_)⟩
    show m_i (rh (m_si hi (X + 6) 1 0) (X + 1) wr') (X + 1 + r) = _
    rw [oi, if_pos (by omega), Nat.add_sub_cancel_left]
  have oi2 : ∀ a, m_n h ≤ a → m_i (rh (m_si hi (X + 6) 1 0) (X + 1) wr') a = m_i hi a := fun a ha => by
    rw [oi, if_neg (by omega), m_i_sb (by omega)]
  have o6 : m_i (rh (m_si hi (X + 6) 1 0) (X + 1) wr') (X + 6) 1 = 0 := by
    rw [oi, if_pos (by omega), show X + 6 - (X + 1) = 5 by omega, d5 5 (by omega)]
    show m_i (m_si hi (X + 6) 1 0) (X + 1 + 5) 1 = 0
    rw [show X + 1 + 5 = X + 6 by omega, m_i_ss]
  have hTD : TD (rh (m_si hi (X + 6) 1 0) (X + 1) wr') X (m_n h) ws := by
    have z0 : ∀ a j, m_n h ≤ a → a < m_n h + 15 → m_i (rh (m_si hi (X + 6) 1 0) (X + 1) wr') a j = 0 := fun a j q1 q2 => by rw [oi2 a q1]; exact i6 a q1 (by omega) j
    refine ⟨⟨?_, ?_, ?_, ?_, ?_, ?_, ?_, ?_, ?_, ?_⟩, 0, 0, 0, ⟨by decide, by decide, by decide, b6 6 (by decide), b6 8 (by decide), b6 9 (by decide), ?_, ?_, ?_⟩, ⟨⟨0, by decide, b6 7 (by decide)⟩, fun i hi' => ?_, fun i q1 q2 => ?_⟩, ⟨fun i hi' => by omega, fun i hi' => by omega⟩, fun i hi' => by omega⟩
    · rw [z0 _ _ (by omega) (by omega), b6 1 (by decide)]
    · rw [b6 1 (by decide)]; unfold bd; decide
    · rw [z0 _ _ (by omega) (by omega), b6 2 (by decide)]
    · rw [b6 2 (by decide)]; unfold bd; decide
    · rw [z0 _ _ (by omega) (by omega), b6 3 (by decide)]
    · rw [b6 3 (by decide)]; unfold bd; decide
    · rw [z0 _ _ (by omega) (by omega), b6 4 (by decide)]
    · rw [b6 4 (by decide)]; unfold bd; decide
    · rw [o6, b6 5 (by decide)]
    · rw [b6 5 (by decide)]; exact Or.inl rfl
    · rw [z0 _ _ (by omega) (by omega)]; rfl
    · rw [z0 _ _ (by omega) (by omega)]; rfl
    · rw [z0 _ _ (by omega) (by omega)]; rfl
    · rw [z0 _ _ (by omega) (by omega)]
      unfold fr20
      rw [b6 7 (by decide), show (0 : Int32) = nI 0 from rfl, bit24 (by decide) (by omega)]
      simp
      rfl
    · rw [z0 _ _ (by omega) (by omega)]
  have hTr0 : TrS (rh (m_si hi (X + 6) 1 0) (X + 1) wr') (m_n h) := c2.trs
  obtain ⟨hc, wc, kc, fc, e1, e2, e3, e4, e5, e6, e7⟩ := clause_both (n := 0) hG hsy hX hTr0 hTD (by decide)
  have hTr1 : TrS hc (m_n h) := hTr0.fr' e4
  obtain ⟨hf, wf, f1, f2, f3⟩ := tr_loop (G := G) hG hX 40 1 bN m hc wc kc fc rfl (bN_gt (by decide)) m41 (Nat.le_refl _) e3 hTr1 (fun q => ⟨(e7 q).1, by decide, (e7 q).2.2 (Or.inr rfl)⟩)
  obtain ⟨g1, g2, g3, g4, g5, g6, g7, g8⟩ := f3
  have Fo : ∀ a, a < m_n h → m_t (rh (m_si hi (X + 6) 1 0) (X + 1) wr') a = m_t h a ∧ m_r (rh (m_si hi (X + 6) 1 0) (X + 1) wr') a = m_r h a ∧ (¬ RdC X a → m_i (rh (m_si hi (X + 6) 1 0) (X + 1) wr') a = m_i h a ∧ m_l (rh (m_si hi (X + 6) 1 0) (X + 1) wr') a = m_l h a) := fun a ha => by
    refine ⟨(i2 a ha).1, (i2 a ha).2.1, fun hq => ⟨?_, (i2 a ha).2.2.2⟩⟩
    unfold RdC at hq
    rw [oi]
    by_cases z : X + 1 ≤ a ∧ a < X + 1 + 8
    · obtain ⟨o, rfl⟩ : ∃ o, a = X + 1 + o := ⟨a - (X + 1), by omega⟩
      rw [if_pos z, Nat.add_sub_cancel_left, d5 o (by omega)]
      show m_i (m_si hi (X + 6) 1 0) (X + 1 + o) = _
      rw [m_i_sb (by omega), (i2 _ ha).2.2.1]
    · rw [if_neg z, m_i_sb (by omega), (i2 a ha).2.2.1]
  have hn0 : m_n (rh (m_si hi (X + 6) 1 0) (X + 1) wr') = m_n h + 15 := i1
  have Fall := e4.tr g4
  generalize rh (m_si hi (X + 6) 1 0) (X + 1) wr' = h9 at op hsy hTD hTr0 e1 e4 Fo Fall hn0
  have hTr2 : TrS hf (m_n h) := hTr1.fr' g4
  obtain ⟨u1, u2, u3⟩ := rd6 g1
  have e9 : m_i (m_si hf (m_n h) 0 1) (X + 1) 9 = wf.1 0 34 := by rw [m_i_sb (by omega)]; exact g2
  refine ⟨m_si hf (m_n h) 0 1, wf, ?_, ?_, g1.cg rfl rfl, e9, g3, g7, ?_, fun a ha => ?_, hTr2, fun r hr => ?_, fun j hj => ?_, ?_, fun z => ⟨(g8 z).1.s0 hX, (g8 z).2, m_i_ss _ _ _ _⟩⟩
  · unfold f_X10_readTrain
    rw [u_nn, u_nn, c1, u_ob, u_ck p1, u_nn, m_r_si, p2, u_ob, m_t_si, u_ck p3, op, u_ob, u_ck (rd6 hsy.1).1, show f_X10_readClause G (X + 6) (m_n h) (0 : Int32) h9 = some hc from e1, u_ob]
    refine (f1 _).trans ?_
    rw [u_ck hTr2.1, u_nn, m_t_si, u_ck u1, m_r_si, u2, u_ob, u_ck u3, e9]
    by_cases z : wf.1 0 34 = 0
    · rw [if_pos z, if_pos z]
    · rw [if_neg z, if_neg z]
  · rw [b1, hm]
    show P_X12_readsAll_29 G _ _ _ _ = _
    unfold P_X12_readsAll_29
    rw [if_neg n10, show p_X12_trainClause G (0 : Int32) ws = some wc from e2, u_ob, u_nn]
    exact f2
  · show m_n hf = _
    rw [Fall.2.2.1]; exact hn0
  · have := Fo a ha
    refine ⟨?_, ?_, fun hq => ⟨?_, ?_⟩⟩
    · rw [m_t_si, Fall.1]; exact this.1
    · rw [m_r_si, Fall.2.1]; exact this.2.1
    · rw [m_i_sb (by omega), (Fall.2.2.2 a (by unfold STn; unfold RdC at hq; omega)).1]; exact (this.2.2 hq).1
    · show m_l hf a = _
      rw [(Fall.2.2.2 a (by unfold STn; unfold RdC at hq; omega)).2]; exact (this.2.2 hq).2
  · rw [g5 r hr, e5 r hr, b2 r (by omega) (by omega)]
  · rw [g6 j (by omega) (by omega) (by omega), e6 j (by omega) (by omega), b3 j (by omega)]
  · rw [g6 36 (by decide) (by decide) (by decide), e6 36 (by decide) (by decide), b36]
end
