/-! PURE 96: journeys. -/
section
variable {G : GG} {own : Nat → Nat} {R X c t U : Nat} {h h0 h1 h2 h' : AH} {w w0 w' w1 w2 w3 wk : MS} {v v' v0 : VV} {law : Option Nat}
theorem JS.go (hJ : JS h X t w law) (hm : (w.1 1 10).toInt < 240) (hsc : ∀ a, MSc (X + 34) law a → Scr X R h a ∧ a ≠ X) : ∃ h2 w2 x, f_X0_go G (X + 34) law h = some (x, h2) ∧ p_X12_mileGoes G w = some (x, w2) ∧ JS h2 X t w2 law ∧ FrQ X R h h2 ∧ JF X w w2 ∧ (w2.1 1 10).toInt = (w.1 1 10).toInt + 1 := by
  obtain ⟨⟨a1, a2, a3, a4⟩, b1, b2, b3, b4, b5⟩ := hJ
  obtain ⟨h2, w2, x, g1, g2, g3, g4, g5, g6, g7, g8, g9, g10, g11, -⟩ := go_both (G := G) b3 b4.1 b4.2.1 b4.2.2 hm b5
  have i1 : (1 : Int32).toInt = 1 := rfl
  have q := g8.q hsc
  refine ⟨h2, w2, x, g1, g2, ⟨⟨by rw [g8.1]; exact a1, by rw [g8.2.1]; exact a2, a3, a4⟩, ?_, ?_, g3, ⟨g4, g5, g6⟩, g7⟩, q, ⟨g9, fun i q1 q2 q3 _ => g10 i q1 q2 q3⟩, ?_⟩
  · rw [(g8.2.2.2 X (fun z => by have := a4 _ z; omega)).1, g10 15 (by decide) (by decide) (by decide)]; exact b1
  · rw [g10 15 (by decide) (by decide) (by decide)]; exact b2
  · rw [g11, I_add (by rw [i1]; have := (st_mile b4.1).1; omega) (by rw [i1]; omega), i1]
theorem dj_both {N : Nat} {pct : Int32} (hN : N ≤ 240) (hsc : ∀ a, MSc (X + 34) law a → Scr X R h0 a ∧ a ≠ X) : ∀ (d k : Nat) (acc : Int32) (h : AH) (w : MS), k + d = N → FrQ X R h0 h → JS h X t w law → (w.1 1 10).toInt + d ≤ 240 → ∃ acc2 h2 w2, (∀ n, d < n → lq2 (F_X11_drawJourney_18 G X (nI N) pct law) n acc (nI k) h = some (acc2, h2)) ∧ (∀ (v1 v4 v5 v7 v8 : Int32) (K : Int32 → MS → Option (Int32 × MS)) (n : Nat), d < n → lw2 (P_X12_journeys_108 G v1 (nI N) pct v4 v5 v7 v8 K) n acc (nI k) w = K acc2 w2) ∧ JS h2 X t w2 law ∧ FrQ X R h0 h2 ∧ JF X w w2
  | 0, k, acc, h, w, e, hF, hJ, hm => by
    refine ⟨acc, h, w, ?_, ?_, hJ, hF, Fw.rf, fun _ _ _ _ _ => rfl⟩
    · intro n hn
      obtain ⟨n, rfl⟩ : ∃ M, n = M + 1 := ⟨n - 1, by omega⟩
      show F_X11_drawJourney_18 G X (nI N) pct law _ _ _ _ = _
      rw [F_X11_drawJourney_18, if_pos (nI_le (by omega) (by omega))]
    · intro v1 v4 v5 v7 v8 K n hn
      obtain ⟨n, rfl⟩ : ∃ M, n = M + 1 := ⟨n - 1, by omega⟩
      show P_X12_journeys_108 G v1 (nI N) pct v4 v5 v7 v8 K _ _ _ _ = _
      rw [P_X12_journeys_108, if_pos (nI_le (by omega) (by omega))]
  | d + 1, k, acc, h, w, e, hF, hJ, hm => by
    obtain ⟨j1, j2, j3⟩ := hJ.draw (R := R)
    have hX := hJ.1.1
    have sc : ∀ h1, FrQ X R h0 h1 → ∀ a, MSc (X + 34) law a → Scr X R h1 a ∧ a ≠ X := fun h1 q a z => ⟨(Scr.eq (q.2.2.1 (X + 9) (by omega)) a).mpr (hsc a z).1, (hsc a z).2⟩
    -- after the pull or not
    have mid : ∃ h2 w2, (∀ j : AH → Option (Int32 × AH), (if pct ≤ drw (w.1 1 15) / 65536 - drw (w.1 1 15) / 65536 / 100 * 100 then j (m_si h X 12 (drw (w.1 1 15))) else ck (m_t (m_si h X 12 (drw (w.1 1 15))) X = .inl 11) <| ob (f_X11_drawPull G X (m_si h X 12 (drw (w.1 1 15)))) fun h22 => j h22) = j h2) ∧ (∀ j : MS → Option (Int32 × MS), (if pct ≤ drw (w.1 1 15) / 65536 - drw (w.1 1 15) / 65536 / 100 * 100 then j (w_si w 1 15 (drw (w.1 1 15))) else cw (p_X12_ridersMany G (w_si w 1 15 (drw (w.1 1 15)))) fun r44 w42 => if r44 ≤ 0 then (j w42) else cw (p_X12_ridersMany G w42) fun r48 w46 => cw (p_X12_draws G r48 w46) fun r51 w49 => cw (p_X12_riderOf G r51 w49) fun r54 w52 => cw (p_X12_wantOf G r54 w52) fun r57 w55 => ck (ixn 17 (13 : Int32) = true) <| nn (w_si w55 1 (13 : Int32).toNatClampNeg r57) fun w59 => j w59) = j w2) ∧ JS h2 X t w2 law ∧ FrQ X R h h2 ∧ JF0 X w w2 := by
      by_cases z : pct ≤ drw (w.1 1 15) / 65536 - drw (w.1 1 15) / 65536 / 100 * 100
      · exact ⟨_, _, fun j => by rw [if_pos z], fun j => by rw [if_pos z], j1, j2, j3⟩
      · obtain ⟨h2, w2, p1, p2, p3, p4, p5⟩ := pull_both (G := G) (R := R) j1
        exact ⟨h2, w2, fun j => by rw [if_neg z, u_ck j1.1.1, p1, u_ob], fun j => by rw [if_neg z]; exact p2 j, p3, j2.tr p4, j3.tr p5⟩
    obtain ⟨h2, w2, m1, m2, m3, m4, m5⟩ := mid
    have hm2 : (w2.1 1 10).toInt = (w.1 1 10).toInt := by rw [m5.2 10 (by decide) (by decide)]
    obtain ⟨h3, w3, x, g1, g2, g3, g4, g5, g6⟩ := m3.go (G := G) (R := R) (by omega) (sc h2 (hF.tr m4))
    obtain ⟨acc2, h4, w4, f1, f2, f3, f4, f5⟩ := dj_both hN hsc d (k + 1) (acc + x) h3 w3 (by omega) ((hF.tr m4).tr g4) g3 (by omega)
    refine ⟨acc2, h4, w4, ?_, ?_, f3, f4, (m5.jf.tr g5).tr f5⟩
    · intro n hn
      obtain ⟨n, rfl⟩ : ∃ M, n = M + 1 := ⟨n - 1, by omega⟩
      show F_X11_drawJourney_18 G X (nI N) pct law _ _ _ _ = _
      rw [F_X11_drawJourney_18, if_neg (nI_ge (by omega) (by omega)), u_ck hX, c_nextDraw hX, u_cb, u_nn, hJ.2.1]
      refine (m1 (fun h_39 => ck (m_t h_39 X = .inl 11) <| ob (m_r h_39 X 7) fun b13 => ck (m_t h_39 b13 = .inl 0) <| cb (f_X0_go G b13 law h_39) fun r17 h15 => nn (acc + r17) fun x18 => nn (nI k + (1 : Int32)) fun x19 => lq2 (F_X11_drawJourney_18 G X (nI N) pct law) n x18 x19 h15)).trans ?_
      show (ck (m_t h2 X = .inl 11) <| ob (m_r h2 X 7) fun b13 => ck (m_t h2 b13 = .inl 0) <| cb (f_X0_go G b13 law h2) fun r17 h15 => nn (acc + r17) fun x18 => nn (nI k + (1 : Int32)) fun x19 => lq2 (F_X11_drawJourney_18 G X (nI N) pct law) n x18 x19 h15) = _
      rw [u_ck m3.1.1, m3.1.2.1, u_ob, u_ck (cab_t m3.2.2.2.1), g1, u_cb, u_nn, u_nn, nI_1]
      exact f1 n (by omega)
    · intro v1 v4 v5 v7 v8 K n hn
      obtain ⟨n, rfl⟩ : ∃ M, n = M + 1 := ⟨n - 1, by omega⟩
      show P_X12_journeys_108 G v1 (nI N) pct v4 v5 v7 v8 K _ _ _ _ = _
      rw [P_X12_journeys_108, if_neg (nI_ge (by omega) (by omega)), p_draws hJ.2.2.1 (by decide), u_cw, u_nn]
      refine (m2 (fun h_154 => cw (p_X12_mileGoes G h_154) fun r38 w36 => nn (acc + r38) fun x39 => nn (nI k + (1 : Int32)) fun x40 => lw2 (P_X12_journeys_108 G v1 (nI N) pct v4 v5 v7 v8 K) n x39 x40 w36)).trans ?_
      show (cw (p_X12_mileGoes G w2) fun r38 w36 => nn (acc + r38) fun x39 => nn (nI k + (1 : Int32)) fun x40 => lw2 (P_X12_journeys_108 G v1 (nI N) pct v4 v5 v7 v8 K) n x39 x40 w36) = _
      rw [g2, u_cw, u_nn, u_nn, nI_1]
      exact f2 v1 v4 v5 v7 v8 K n (by omega)
/-- rows that a kept state has -/
def Rs (r : Nat) : Prop := (3 ≤ r ∧ r ≤ 7) ∨ (13 ≤ r ∧ r ≤ 19) ∨ (42 ≤ r ∧ r ≤ 48) ∨ r = 53 ∨ r = 81 ∨ r = 82
def JW (w wk w' : MS) : Prop := WQ w w' ∧ (∀ k, k ≠ 83 → k ≠ 84 → w'.1 0 k = wk.1 0 k) ∧ ∀ r, Rs r → w'.1 r = wk.1 r
theorem JW.st (k1 : p_X12_keepsAll G w = some wk) : JW w wk wk := by
  obtain ⟨kr, kp⟩ := keeps_pw k1
  obtain ⟨wk', e1, e2, e3, e4, e5⟩ := p_keepsAll (G := G) (w := w)
  rw [k1] at e1; cases e1
  refine ⟨⟨kp, fun k hk => e3 k (by omega) (by omega), fun r hr => e2 r (by omega) (by omega), fun j hj => ?_⟩, fun _ _ _ => rfl, fun _ _ => rfl⟩
  rw [e5, pick_7, if_neg (by omega), if_neg (by omega), if_neg (by omega), if_neg (by omega), if_neg (by omega), if_neg (by omega), if_neg (by omega)]
theorem JW.bk (k1 : p_X12_keepsAll G w = some wk) (h0 : ∀ k, k ≠ 83 → k ≠ 84 → w2.1 0 k = wk.1 0 k) (hs : ∀ r, Rs r → w2.1 r = wk.1 r) : ∃ w3, p_X12_laysBack G w2 = some w3 ∧ JW w wk w3 := by
  obtain ⟨⟨s1, s2, s3, s4⟩, -, -⟩ := JW.st k1
  obtain ⟨w3, f1, f2, f3, f4, f5⟩ := kept_back (G := G) (w2 := w2) k1 (hs 81 (by unfold Rs; omega)) (fun r hr => hs r (by unfold Rs; omega))
  have h3 : ∀ r, Rs r → w3.1 r = wk.1 r := fun r hr => by
    rw [f4 r (by unfold Rs at hr; omega) (by unfold Rs at hr; omega), hs r hr]
  have h30 : ∀ k, k ≠ 83 → k ≠ 84 → w3.1 0 k = wk.1 0 k := fun k q1 q2 => by rw [f3 k q1 q2, h0 k q1 q2]
  exact ⟨w3, f1, ⟨f2, fun k hk => by rw [h30 k (by omega) (by omega), s2 k hk], fun r hr => by rw [h3 r (by unfold Rs; omega), s3 r hr], fun j hj => by rw [h3 81 (by unfold Rs; omega), s4 j hj]⟩, h30, h3⟩
end
