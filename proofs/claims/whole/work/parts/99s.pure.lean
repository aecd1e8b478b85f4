/-! PURE 99s: train, the call. -/
section
variable {G : GG} {own own' : Nat → Nat} {R X c t U n : Nat} {h h1 h' : AH} {w w2 wq : MS} {v v' v0 : VV} {Ex : Nat → Prop}
theorem out_no (hS : St w.1) (h10 : ∀ q, q < sN w.1 → w.1 10 q = 0) : ∀ (d k m : Nat), k + d = sN w.1 → d < m → lw1 (P_X12_getOut_2 G) m (nI k) w = some w
  | 0, k, m + 1, e, _ => by
    show P_X12_getOut_2 G _ _ _ = _
    unfold P_X12_getOut_2
    rw [u_ck (show ixn 17 (6 : Int32) = true from rfl), show (6 : Int32).toNatClampNeg = 6 from rfl, hS.2.1.1, if_pos (nI_le (by omega) (by have := hS.2.1.2; omega))]
  | d + 1, k, m + 1, e, hm => by
    have h8 := hS.2.1.2
    show P_X12_getOut_2 G _ _ _ = _
    unfold P_X12_getOut_2
    rw [u_ck (show ixn 17 (6 : Int32) = true from rfl), show (6 : Int32).toNatClampNeg = 6 from rfl, hS.2.1.1, if_neg (nI_ge (by omega) (by omega)), p_rides hS (by omega), u_cw, u_nn, h10 k (by omega), if_pos rfl]
    dsimp only
    rw [nI_1, u_nn]
    exact out_no hS h10 d (k + 1) m (by omega) (by omega)
/-- the class's new cabin, and the scene -/
theorem c_begin (hT : TrS h t) (hd : TD h X t w) (h00 : m_i h t 0 = 1) (h20 : w.1 20 0 = 1) (hX : X + 122 ≤ t) (hn : m_n h = t + 15) (hs : m_t h (X + 10) = .inl 6) (hN : NwT w wq) : ∃ h' w', f_X6_begin G (X + 10) t h = some h' ∧ p_X12_getIn G wq = some w' ∧ m_n h' = t + 20 ∧ (∀ a, a < t + 15 → m_t h' a = m_t h a ∧ m_l h' a = m_l h a ∧ (a ≠ X + 10 → m_r h' a = m_r h a ∧ m_i h' a = m_i h a)) ∧ (∀ k, 0 < k → m_r h' (X + 10) k = m_r h (X + 10) k) ∧ m_r h' (X + 10) 0 = some (t + 15) ∧ (∀ k, k ≠ 1 → k ≠ 4 → m_i h' (X + 10) k = m_i h (X + 10) k) ∧ m_i h' (X + 10) 1 = 0 ∧ m_i h' (X + 10) 4 = 0 ∧ Cab h' (t + 15) t w'.1 ∧ Sta w'.1 ∧ ∀ r, r ≠ 9 → r ≠ 10 → w'.1 r = wq.1 r := by
  have hSt := nwt_St hN hd h20
  obtain ⟨s, n, a, b, c0, g, u, q⟩ := id hd
  obtain ⟨c1, c2, c3, c4, c5, c6, c7, c8, c9⟩ := c0
  have eN := nwt_N hN c4 c1
  have eT : sT wq.1 = a := by unfold sT; rw [hN.1 8 (by decide), c5]; exact nI_clamp (by omega)
  have eC : sC wq.1 = b := by unfold sC; rw [hN.1 9 (by decide), c6]; exact nI_clamp (by omega)
  obtain ⟨ha, a1, a2, a3, a4, a5, a6, a7⟩ := c_cabinit (G := G) h t
  rw [hn] at a1 a2 a3 a4 a5 a6 a7
  -- the train, as it was
  have tA : ∀ x, x < t + 15 → m_t (m_sr ha (X + 10) 0 (some (t + 15))) x = m_t h x := fun x hx => (a3 x hx).1
  have rA : ∀ x, x < t + 15 → x ≠ X + 10 → m_r (m_sr ha (X + 10) 0 (some (t + 15))) x = m_r h x := fun x hx hy => by rw [m_r_srb hy]; exact (a3 x hx).2.1
  have iA : ∀ x, x < t + 15 → m_i (m_sr ha (X + 10) 0 (some (t + 15))) x = m_i h x := fun x hx => by rw [m_i_sr]; exact (a3 x hx).2.2.1
  have lA : ∀ x, x < t + 15 → m_l (m_sr ha (X + 10) 0 (some (t + 15))) x = m_l h x := fun x hx => (a3 x hx).2.2.2
  have hTA : TrS (m_sr ha (X + 10) 0 (some (t + 15))) t := hT.hp (fun x q1 q2 => ⟨tA x q2, rA x q2 (by omega)⟩)
  have hCA : CaS (m_sr ha (X + 10) 0 (some (t + 15))) (t + 15) := a4.hp (fun _ _ _ => rfl) (fun k _ => by rw [m_r_srb (by omega)])
  have rc : m_r (m_sr ha (X + 10) 0 (some (t + 15))) (t + 15) 0 = some t := by rw [m_r_srb (by omega)]; exact a5
  have r10 : m_r (m_sr ha (X + 10) 0 (some (t + 15))) (X + 10) 0 = some (t + 15) := m_r_srs _ _ _ _
  have r10' : ∀ k, 0 < k → m_r (m_sr ha (X + 10) 0 (some (t + 15))) (X + 10) k = m_r h (X + 10) k := fun k hk => by rw [m_r_srj (by omega), (a3 _ (by omega)).2.1]
  have iz : ∀ k, 2 ≤ k → k ≤ 5 → m_i (m_sr ha (X + 10) 0 (some (t + 15))) (t + 15) k = 0 := fun k q1 q2 => by rw [m_i_sr]; exact a6 k q1 q2
  have iz' : ∀ o, 1 ≤ o → o ≤ 4 → ∀ j, m_i (m_sr ha (X + 10) 0 (some (t + 15))) (t + 15 + o) j = 0 := fun o q1 q2 j => by rw [m_i_sr]; exact a7 o q1 q2 j
  have nA : m_n (m_sr ha (X + 10) 0 (some (t + 15))) = t + 20 := a2
  have bg0 : f_X6_begin G (X + 10) t h = (ob (f_X0_begin G (t + 15) (m_sr ha (X + 10) 0 (some (t + 15)))) fun h9 => ck (m_t h9 (X + 10) = .inl 6) <| nn (m_si h9 (X + 10) 1 (0 : Int32)) fun h12 => nn (m_si h12 (X + 10) 4 (0 : Int32)) fun h13 => some h13) := by
    unfold f_X6_begin
    rw [u_nn, u_nn, hn, a1, u_ob, u_ck (show m_t ha (X + 10) = .inl 6 by rw [(a3 _ (by omega)).1]; exact hs), u_nn, r10, u_ob, u_ck hCA.1]
  generalize m_sr ha (X + 10) 0 (some (t + 15)) = hA at *
  -- the cabin's numbers
  obtain ⟨kk, hk1, hk2⟩ := bd_nI (b := 3) s.2.2.2.1
  have i4 : m_i hA t 4 = w.1 20 4 := by rw [iA t (by omega)]; exact s.2.2.2.2.2.2.1
  have i1 : m_i hA t 1 = w.1 20 1 := by rw [iA t (by omega)]; exact s.1
  have i2 : m_i hA t 2 = nI kk := by rw [iA t (by omega), s.2.2.1]; exact hk2
  have i5 : m_i hA t 5 = nI n := by rw [iA t (by omega)]; exact c7
  have tF : m_t (m_si (m_si (m_si hA (t + 15) 2 (w.1 20 4)) (t + 15) 3 (w.1 20 1)) (t + 15) 5 (nI (kn kk 6))) (t + 15 + 1) = .inr (.int, 8) := hCA.2.2.2.2.2.1
  obtain ⟨hf, f1, f2, f3⟩ := c_fill G (a := t + 15 + 1) (N := 8) (x := -1) (h := m_si (m_si (m_si hA (t + 15) 2 (w.1 20 4)) (t + 15) 3 (w.1 20 1)) (t + 15) 5 (nI (kn kk 6))) (by decide) tF
  have fi : ∀ x, x ≠ t + 15 + 1 → x ≠ t + 15 → m_i hf x = m_i hA x := fun x q1 q2 => by rw [(f2.2.2.2 x q1).1, m_i_sb q2, m_i_sb q2, m_i_sb q2]
  have ft : m_t hf = m_t hA := f2.1
  have fr : m_r hf = m_r hA := f2.2.1
  have hCF : CaS hf (t + 15) := by unfold CaS at hCA ⊢; rw [ft, fr]; exact hCA
  have hTF : TrS hf t := by unfold TrS at hTA ⊢; rw [ft, fr]; exact hTA
  obtain ⟨hg, g1, g2, g3⟩ := bg_loop (G := G) (n := n) (t := t) (c := t + 15) c1 (Nat.le_refl _) n 0 bN hf (Nat.zero_add _) (bN_gt (by omega)) hCF (by rw [fr]; exact rc) hTF (by rw [fi t (by omega) (by omega)]; exact i5)
  have gi : ∀ x, x ≠ t + 15 + 4 → x ≠ t + 15 + 1 → x ≠ t + 15 → m_i hg x = m_i hA x := fun x q0 q1 q2 => by rw [(g2.2.2.2 x q0).1, fi x q1 q2]
  have gc : ∀ j, m_i hg (t + 15) j = if j = 5 then nI (kn kk 6) else if j = 3 then w.1 20 1 else if j = 2 then w.1 20 4 else m_i hA (t + 15) j := fun j => by
    rw [(g2.2.2.2 (t + 15) (by omega)).1, (f2.2.2.2 (t + 15) (by omega)).1, m_i_si, m_i_si, m_i_si]; simp
  have gt : m_t hg = m_t hA := by rw [g2.1, ft]
  have gr : m_r hg = m_r hA := by rw [g2.2.1, fr]
  have gl : ∀ x, x < t + 15 → m_l hg x = m_l hA x := fun x hx => by rw [(g2.2.2.2 x (by omega)).2, (f2.2.2.2 x (by omega)).2]; rfl
  have hCG : CaS hg (t + 15) := by unfold CaS at hCA ⊢; rw [gt, gr]; exact hCA
  have hTG : TrS hg t := by unfold TrS at hTA ⊢; rw [gt, gr]; exact hTA
  have ig : ∀ x, x < t + 15 → m_i hg x = m_i h x := fun x hx => by rw [gi x (by omega) (by omega) (by omega), iA x hx]
  have R8 := hN.2.2.2.2.2.2.2.2.1
  have R5 := hN.2.2.2.2.2.2.2.2.2.1
  have R9 := hN.2.2.2.2.2.2.2.2.2.2.1
  have hCab : Cab hg (t + 15) t wq.1 := by
    refine ⟨⟨hCG, by rw [gr]; exact rc⟩, hTG, ⟨?_, ?_, ?_, ?_, ?_, ?_, ?_, ?_, fun i hi => ?_, fun i hi => ?_, fun i hi => ?_⟩, ⟨?_, ?_, ?_, ?_, fun i hi => ?_⟩, Or.inr (Nat.le_refl _)⟩
    · rw [ig t (by omega), h00, hN.1 0 (by decide), h20]
    · rw [ig t (by omega), hN.1 1 (by decide)]; exact s.1
    · rw [ig t (by omega), hN.1 2 (by decide)]; exact s.2.2.1
    · rw [ig t (by omega), hN.1 3 (by decide)]; exact s.2.2.2.2.1
    · rw [ig t (by omega), hN.1 4 (by decide)]; exact s.2.2.2.2.2.2.1
    · rw [ig t (by omega), hN.1 6 (by decide), c4]; exact c7
    · rw [ig t (by omega), hN.1 8 (by decide), c5]; exact c8
    · rw [ig t (by omega), hN.1 9 (by decide), c6]; exact c9
    · rw [eT] at hi
      rw [ig _ (by omega), ig _ (by omega), R5 13 (by decide) (by decide) i (by omega), R5 14 (by decide) (by decide) i (by omega)]
      exact ⟨(u.1 i hi).1, (u.1 i hi).2.1⟩
    · rw [eC] at hi
      rw [ig _ (by omega), ig _ (by omega), ig _ (by omega), R5 15 (by decide) (by decide) i (by omega), R5 16 (by decide) (by decide) i (by omega), R5 17 (by decide) (by decide) i (by omega)]
      exact ⟨(u.2 i hi).1, (u.2 i hi).2.1, (u.2 i hi).2.2.1⟩
    · rw [eN] at hi
      obtain ⟨y, -⟩ := q i hi
      rw [ig _ (by omega), R8 3 (by decide) (by decide) i (by omega), R8 4 (by decide) (by decide) i (by omega), R8 5 (by decide) (by decide) i (by omega), R8 6 (by decide) (by decide) i (by omega), R8 7 (by decide) (by decide) i (by omega)]
      refine ⟨y.1, y.2.1, y.2.2.1, y.2.2.2.1, y.2.2.2.2.1, ?_⟩
      unfold fro
      rw [hN.1 7 (by decide)]; exact g.2.1 i (by omega)
    · rw [gc, hN.2.2.2.2.1]; rfl
    · rw [gc, hN.2.2.1]; rfl
    · rw [gc, hN.2.1]; exact iz 4 (by decide) (by decide)
    · rw [gc]
      obtain ⟨k1, k2⟩ := kn_e kk (by omega)
      exact ⟨kn kk 6, k1, rfl, fun i hi => by rw [nwt_kv hN hi, hk2, k2 i hi]⟩
    · rw [eN] at hi
      have r9 := R9 i (by omega)
      refine ⟨?_, ?_, ?_, ?_⟩
      · rw [(g2.2.2.2 _ (by omega)).1, f3, if_pos (by omega)]; exact r9.1.symm
      · rw [gi _ (by omega) (by omega) (by omega), iz' 2 (by decide) (by decide)]; exact r9.2.2.1.symm
      · rw [gi _ (by omega) (by omega) (by omega), iz' 3 (by decide) (by decide)]; exact r9.2.2.2.symm
      · rw [g3, if_pos (by omega), fi _ (by omega) (by omega), iA _ (by omega), R8 8 (by decide) (by decide) i (by omega)]
        exact (q i hi).1.2.2.2.2.2
  have i0 : (wq.1 1 10).toInt = -1 + 1 := by rw [hN.2.1]; rfl
  obtain ⟨h2, w1, w2, k1, k2, k3, k4, k5, k6, k7, k8, -⟩ := change_both (G := G) (M := -1) hCab hSt i0 (fun i hi => by
    rw [eN] at hi
    rw [(R9 i (by omega)).2.1, if_neg]
    rintro ⟨y, -⟩
    have := (st_P hSt (q := i) (by rw [eN]; exact hi)).2.1.1
    omega)
  have no : p_X12_getOut G wq = some wq := out_no hSt (fun i hi => by rw [eN] at hi; exact (R9 i (by omega)).2.1) (sN wq.1) 0 bN (Nat.zero_add _) (bN_gt (by rw [eN]; omega))
  rw [no] at k2; cases k2
  have er : ∀ r, r ≠ 9 → r ≠ 10 → w2.1 r = wq.1 r := fun r q1 q2 => k8 r (by omega)
  have hCr : Cr w2.1 := fun i hi => by
    have e1 : w2.1 1 = wq.1 1 := er 1 (by decide) (by decide)
    have : i < n := by rw [← eN]; unfold sN at hi ⊢; rw [← e1]; exact hi
    rw [er 11 (by decide) (by decide), e1, (R9 i (by omega)).2.2.1, hN.2.1]; exact Int.le_refl _
  have bgE : f_X0_begin G (t + 15) hA = some h2 := by
    unfold f_X0_begin
    rw [u_ck hCA.1, rc, u_ob, u_ck hTA.1, i4, u_nn, m_r_si, rc, u_ob, m_t_si, u_ck hTA.1, m_i_sb (show t ≠ t + 15 by omega), i1, u_nn, m_r_si, m_r_si, rc, u_ob, m_t_si, m_t_si, u_ck hTA.1, m_i_sb (show t ≠ t + 15 by omega), m_i_sb (show t ≠ t + 15 by omega), i2, c_knob (by omega), u_cb, m_t_si, m_t_si, u_ck hCA.1, u_nn, m_r_si, m_r_si, m_r_si, hCA.2.1, u_ob, f1, u_ob]
    refine (g1 _).trans ?_
    rw [u_ck hCG.1, k1, u_ob]
  have h2t : m_t h2 = m_t hA := by rw [k7.1, gt]
  have h2r : m_r h2 = m_r hA := by rw [k7.2.1, gr]
  have h2i : ∀ x, x < t + 15 → m_i h2 x = m_i h x := fun x hx => by rw [(k7.2.2.2 x (by omega)).1, ig x hx]
  refine ⟨m_si (m_si h2 (X + 10) 1 0) (X + 10) 4 0, w2, ?_, k3, ?_, fun x hx => ⟨?_, ?_, fun hy => ⟨?_, ?_⟩⟩, fun k hk => ?_, ?_, fun k q1 q2 => ?_, ?_, m_i_ss _ _ _ _, ?_, ⟨k5, k6, hCr⟩, er⟩
  · rw [bg0, bgE, u_ob, u_ck (show m_t h2 (X + 10) = .inl 6 by rw [h2t, tA _ (by omega)]; exact hs), u_nn, u_nn]
  · show m_n h2 = _
    rw [k7.2.2.1, g2.2.2.1, f2.2.2.1]; exact nA
  · rw [m_t_si, m_t_si, h2t]; exact tA x hx
  · show m_l h2 x = _
    rw [(k7.2.2.2 x (by omega)).2, gl x hx]; exact lA x hx
  · rw [m_r_si, m_r_si, h2r]; exact rA x hx hy
  · rw [m_i_sb hy, m_i_sb hy]; exact h2i x hx
  · rw [m_r_si, m_r_si, h2r]; exact r10' k hk
  · rw [m_r_si, m_r_si, h2r]; exact r10
  · rw [m_i_sj q2, m_i_sj q1, h2i _ (by omega)]
  · rw [m_i_sj (by decide), m_i_ss]
  · exact k4.hp (st_N8 k5) (fun x hx => ⟨rfl, rfl, by rw [m_i_sb (by omega), m_i_sb (by omega)]⟩)
theorem call_train (hG : GI G) : Call X (f_X11_train G X) (p_X12_train G) := by
  intro h w ⟨own, R, hR⟩
  obtain ⟨g, ta, r, l, ⟨U, u, sc⟩, i⟩ := hR
  have hX : X + 122 ≤ m_n h := g.2.2.2.2.2.2.2
  obtain ⟨h4, w4, e1, e2, e3⟩ := train_read (G := G) hG g ta
  obtain ⟨b1, b2, b3, b4, b5, b6, b7, b8, b9, b10, b11⟩ := e3
  have gA := g.1
  have t6 : m_t h (X + 6) = .inl 10 := (rd6 g.2.1).1
  have t1 : m_t h4 (X + 1) = .inl 8 := (rd6 b1).2.2
  have o4 : ∀ a, a < m_n h → m_t h4 a = m_t h a ∧ m_r h4 a = m_r h a := fun a ha => ⟨(b6 a ha).1, (b6 a ha).2.1⟩
  have cl : f_X11_train G X h = (on (if w4.1 0 34 = 0 then some (m_n h) else none) (ob (m_r (m_si h4 (X + 1) 1 0) X 0) fun b13 => ck (m_t (m_si h4 (X + 1) 1 0) b13 = .inl 8) <| some ((-2 : Int32) - (m_i (m_si h4 (X + 1) 1 0) b13 9), m_si h4 (X + 1) 1 0)) fun b11 => ob (m_r (m_si h4 (X + 1) 1 0) X 5) fun b15 => ck (m_t (m_si h4 (X + 1) 1 0) b15 = .inl 6) <| ob (f_X6_begin G b15 b11 (m_si h4 (X + 1) 1 0)) fun h17 => ck (m_t h17 b11 = .inl 9) <| some (m_i h17 b11 5, h17)) := by
    unfold f_X11_train
    rw [u_ck gA.1, gA.2.2.1, u_ob, u_ck t6, e1, u_cb, u_ck (show m_t h4 X = .inl 11 by rw [(o4 X (by omega)).1]; exact gA.1), (o4 X (by omega)).2, gA.2.1, u_ob, u_ck t1, u_nn]
  have s0 : ScS h (X + 10) (X + 31) (X + 32) := by obtain ⟨_, _, s1, -⟩ := sc; exact s1
  have hnE : ExO own h (fun _ => False) := fun _ q => q.elim
  have er : ∀ r, (r ≠ 0 ∧ r < 20) ∨ 31 < r → w4.1 r = w.1 r := b8
  by_cases z : w4.1 0 34 = 0
  rotate_left
  · -- a fault
    rw [if_neg z, on_n, m_r_si, (o4 X (by omega)).2, gA.2.1, u_ob, m_t_si, u_ck t1, m_i_sj (by decide), b2] at cl
    obtain ⟨cf, cf1, cf2⟩ := b4
    have rf : p_X12_train G w = some ((-2 : Int32) - w4.1 0 34, w4) := by
      unfold p_X12_train
      rw [e2, u_ob, if_neg]
      rw [cf2]
      rw [cf2] at z
      have : ¬ nI cf ≤ nI 0 := nI_ge (Nat.pos_of_ne_zero (fun y => z (by rw [y]; rfl))) (by omega)
      exact this
    have oi : ∀ a, a < m_n h → ¬ RdC X a → m_i (m_si h4 (X + 1) 1 0) a = m_i h a ∧ m_l (m_si h4 (X + 1) 1 0) a = m_l h a := fun a ha q => ⟨by rw [m_i_sb (by unfold RdC at q; omega)]; exact ((b6 a ha).2.2 q).1, ((b6 a ha).2.2 q).2⟩
    have hD : FrD X R (fun _ => False) h (m_si h4 (X + 1) 1 0) := ⟨by show m_n h ≤ m_n h4; omega, fun a q1 q2 => ⟨(o4 a q2).1, fun _ => ⟨(o4 a q2).2, fun _ => (oi a q2 (by unfold RdC; omega)).1⟩⟩⟩
    have hF : FrX X h (m_si h4 (X + 1) 1 0) := ⟨fun a _ _ => (o4 a (by omega)).1, fun a _ _ _ _ _ _ => (o4 a (by omega)).2, fun k _ => by rw [m_r_si, (o4 _ (by omega)).2], fun k _ => by rw [m_r_si, (o4 _ (by omega)).2], fun a q1 q2 => (oi a (by omega) (by unfold RdC; omega)).1, fun a q1 q2 => ⟨(o4 a (by omega)).1, (o4 a (by omega)).2, oi a (by omega) (by unfold RdC; omega)⟩⟩
    refine ⟨_, _, _, cl, rf, ⟨own, R, hF.gs hD.1 g, ⟨0, by decide, b3, m_i_ss _ _ _ _, fun i hi => by omega⟩, ⟨r.1, by rw [b10]; exact r.2.1, by rw [(oi X (by omega) (by unfold RdC; omega)).1]; exact r.2.2.1, by rw [b9 41 (by omega)]; exact r.2.2.2⟩, l.frd hnE hD (fun _ _ => rfl) (fun _ _ => by rw [m_r_si, (o4 _ (by omega)).2]) (fun k q1 q2 => er k (by omega)), ⟨U, by rw [b9 55 (by omega)]; exact u, ?_⟩, fun k hk => (i k hk).frd l hD hF (fun _ _ => rfl) (by rw [m_r_si, (o4 _ (by omega)).2]) (er 81 (by omega)) (by rw [er 82 (by omega)])⟩, hF.kp hD.1⟩
    have hss : ScS (m_si h4 (X + 1) 1 0) (X + 10) (X + 31) (X + 32) := by
      unfold ScS at s0 ⊢
      rw [hF.1 _ (by omega) (by omega), hF.1 _ (by omega) (by omega), hF.1 _ (by omega) (by omega), hF.2.2.1 5 (by decide), hF.2.2.1 6 (by decide)]; exact s0
    have epw : PW w.1 w4.1 := fun r q1 q2 i _ => by rw [er r (by omega)]
    exact (sc.cp l hnE hD hF (fun _ _ => rfl) hss (by rw [m_r_si, (o4 _ (by omega)).2]) (fun _ _ _ => by rw [(oi _ (by omega) (by unfold RdC; omega)).1]) (fun _ _ => by rw [(oi _ (by omega) (by unfold RdC; omega)).1, (oi _ (by omega) (by unfold RdC; omega)).1]; exact ⟨rfl, rfl⟩)).pw epw (fun n _ => by rw [er 53 (by omega)])
  · -- a train
    obtain ⟨d1, d2, d3⟩ := b11 z
    obtain ⟨wq, n1, n2⟩ := p_train_ok (G := G) z
    have hT' : TrS (m_si h4 (X + 1) 1 0) (m_n h) := b7
    have hd' : TD (m_si h4 (X + 1) 1 0) X (m_n h) w4 := d1.f1 (Fr.si rfl) hX FrW.rf
    have h00 : m_i (m_si h4 (X + 1) 1 0) (m_n h) 0 = 1 := by rw [m_i_sb (by omega)]; exact d3
    have h10t : m_t (m_si h4 (X + 1) 1 0) (X + 10) = .inl 6 := by rw [m_t_si, (o4 _ (by omega)).1]; exact s0.1
    obtain ⟨h', w', c1, c2, c3, c4, c5, c6, c7, c8, c9, c10, c11, c12⟩ := c_begin (G := G) hT' hd' h00 d2 hX b5 h10t n1
    rw [if_pos z, on_s, m_r_si, (o4 X (by omega)).2, gA.2.2.2.2.2.1, u_ob, u_ck h10t, c1, u_ob, u_ck (tr_t c10), tr_i5 c10] at cl
    have rf := n2 w e2
    rw [c2, u_ob, u_nn, u_ck (show ixn 17 (6 : Int32) = true from rfl), show (6 : Int32).toNatClampNeg = 6 from rfl, w_si_r (show 1 ≠ 0 by decide)] at rf
    have N0 := n1.2.2.2.2.2.2.2.2.2.2.2
    -- frames
    have T' : ∀ a, a < m_n h → m_t h' a = m_t h a := fun a ha => by rw [(c4 a (by omega)).1, m_t_si]; exact (o4 a ha).1
    have R' : ∀ a, a < m_n h → a ≠ X + 10 → m_r h' a = m_r h a := fun a ha q => by rw [((c4 a (by omega)).2.2 q).1, m_r_si]; exact (o4 a ha).2
    have I' : ∀ a, a < m_n h → a ≠ X + 10 → ¬ RdC X a → m_i h' a = m_i h a ∧ m_l h' a = m_l h a := fun a ha q q2 => by
      refine ⟨?_, ?_⟩
      · rw [((c4 a (by omega)).2.2 q).2, m_i_sb (by unfold RdC at q2; omega)]; exact ((b6 a ha).2.2 q2).1
      · rw [(c4 a (by omega)).2.1]; exact ((b6 a ha).2.2 q2).2
    have R10 : ∀ k, 0 < k → m_r h' (X + 10) k = m_r h (X + 10) k := fun k hk => by rw [c5 k hk, m_r_si, (o4 _ (by omega)).2]
    have I10 : ∀ k, k ≠ 1 → k ≠ 4 → m_i h' (X + 10) k = m_i h (X + 10) k := fun k q1 q2 => by rw [c7 k q1 q2, m_i_sb (by omega), ((b6 _ (by omega)).2.2 (by unfold RdC; omega)).1]
    have hD : FrD X R (fun _ => False) h h' := ⟨by omega, fun a q1 q2 => ⟨T' a q2, fun _ => ⟨R' a q2 (by omega), fun _ => (I' a q2 (by omega) (by unfold RdC; omega)).1⟩⟩⟩
    have hF : FrX X h h' := ⟨fun a _ _ => T' a (by omega), fun a _ _ _ q _ _ => R' a (by omega) q, R10, fun k _ => by rw [R' _ (by omega) (by omega)], fun a q1 q2 => (I' a (by omega) (by omega) (by unfold RdC; omega)).1, fun a q1 q2 => ⟨T' a (by omega), R' a (by omega) (by omega), I' a (by omega) (by omega) (by unfold RdC; omega)⟩⟩
    have ew : ∀ r, 32 ≤ r → (w_si w' 0 55 0).1 r = w.1 r := fun r hr => by rw [w_si_r (by omega), c12 r (by omega) (by omega), N0 r (by omega), er r (by omega)]
    have e0 : ∀ j, j ≠ 55 → (w_si w' 0 55 0).1 0 j = w4.1 0 j := fun j hj => by rw [w_si_j hj, c12 0 (by decide) (by decide), N0 0 (by omega)]
    have e1r : (w_si w' 0 55 0).1 1 = wq.1 1 := by rw [w_si_r (by decide), c12 1 (by decide) (by decide)]
    have ho : ∀ a, a < m_n h → (fun a => if m_n h + 15 ≤ a then m_n h + 15 else if m_n h ≤ a then m_n h else own a) a = own a := fun a ha => by
      show (if m_n h + 15 ≤ a then m_n h + 15 else if m_n h ≤ a then m_n h else own a) = own a
      rw [if_neg (by omega), if_neg (by omega)]
    have hCab : Cab h' (m_n h + 15) (m_n h) (w_si w' 0 55 0).1 := c10.pw c11.1 (fun r q1 q2 i hi _ => by rw [w_si_r (by omega)])
    have hCaD : CaD (fun a => if m_n h + 15 ≤ a then m_n h + 15 else if m_n h ≤ a then m_n h else own a) h' X (m_n h + 15) (m_n h) := ⟨by omega, by omega, fun a q1 q2 => by show (if m_n h + 15 ≤ a then m_n h + 15 else if m_n h ≤ a then m_n h else own a) = _; rw [if_pos q1], hX, by omega, fun a q1 q2 => by show (if m_n h + 15 ≤ a then m_n h + 15 else if m_n h ≤ a then m_n h else own a) = _; rw [if_neg (by omega), if_pos q1]⟩
    have hSta : Sta (w_si w' 0 55 0).1 := c11.pw (fun r q1 q2 i hi _ => by rw [w_si_r (by omega)])
    refine ⟨_, _, _, cl, rf, ⟨_, R, hF.gs hD.1 g, ⟨0, by decide, by rw [e0 32 (by decide)]; exact b3, ?_, fun i hi => by omega⟩, ⟨r.1, by rw [e0 36 (by decide), b10]; exact r.2.1, by rw [(I' X (by omega) (by omega) (by unfold RdC; omega)).1]; exact r.2.2.1, by rw [e0 41 (by decide), b9 41 (by omega)]; exact r.2.2.2⟩, l.frd hnE hD ho (fun _ _ => by rw [R' _ (by omega) (by omega)]) (fun k q1 q2 => ew k (by omega)), ⟨0, w_si_s _ _ _ _, m_n h + 15, m_n h, ?_, c6, Or.inl ⟨?_, hCab, hCaD⟩, hSta, ?_, ?_, fun _ => rfl, trivial⟩, fun k hk => (i k hk).frd l hD hF ho (by rw [R' _ (by omega) (by omega)]) (ew 81 (by decide)) (by rw [ew 82 (by decide)])⟩, hF.kp hD.1⟩
    · rw [((c4 (X + 1) (by omega)).2.2 (by omega)).2, m_i_ss]; rfl
    · unfold ScS at s0 ⊢
      rw [hF.1 _ (by omega) (by omega), hF.1 _ (by omega) (by omega), hF.1 _ (by omega) (by omega), R10 5 (by decide), R10 6 (by decide)]; exact s0
    · rw [e1r, n1.1 0 (by decide)]; exact d2
    · obtain ⟨_, _, _, _, _, _, sv, -⟩ := sc
      unfold ScV at sv ⊢
      have e15 : (w_si w' 0 55 0).1 1 15 = w.1 1 15 := by rw [e1r, n1.2.2.2.2.2.2.1 15 (by decide), er 1 (by omega)]
      have e16 : (w_si w' 0 55 0).1 1 16 = w.1 1 16 := by rw [e1r, n1.2.2.2.2.2.2.1 16 (by decide), er 1 (by omega)]
      rw [c8, I10 2 (by decide) (by decide), I10 3 (by decide) (by decide), e15, e16]
      exact ⟨rfl, by decide, sv.2.2⟩
    · exact ⟨0, by decide, by rw [e1r]; exact n1.2.2.2.2.2.1, c9, fun k hk => by omega⟩
end
