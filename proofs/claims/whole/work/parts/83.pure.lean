/-! PURE 83: undo, seats, log. -/
section
variable {G : GG} {own : Nat → Nat} {R X c t U : Nat} {h h1 h' : AH} {w w1 w2 : MS} {v v' v0 : VV}
/-- the scene in use is put elsewhere: nothing else changes -/
theorem RelO.put (hR : RelO own R h X w) (hn : m_n h1 = m_n h) (hT : m_t h1 = m_t h) (hr : ∀ a, a ≠ X + 10 → m_r h1 a = m_r h a) (hr10 : ∀ k, 0 < k → m_r h1 (X + 10) k = m_r h (X + 10) k) (hi : ∀ a, a ≠ X + 10 → a ≠ X + 31 → a ≠ X + 32 → m_i h1 a = m_i h a) (hl : m_l h1 = m_l h) (e32 : w2.1 0 32 = w.1 0 32) (e36 : w2.1 0 36 = w.1 0 36) (e41 : w2.1 0 41 = w.1 0 41) (er : ∀ r, 42 ≤ r → r ≤ 48 → w2.1 r = w.1 r) (e81 : w2.1 81 = w.1 81) (e82 : w2.1 82 = w.1 82) (hS : ∃ U, w2.1 0 55 = nI U ∧ ScR own R h1 X (X + 10) (X + 31) (X + 32) w2.1 U) : RelO own R h1 X w2 ∧ Kp X h h1 := by
  obtain ⟨g, ta, r, l, -, i⟩ := hR
  have hg8 := g.2.2.2.2.2.2.2
  have hD : FrD X R (fun _ => False) h h1 := ⟨by omega, fun a q1 q2 => ⟨by rw [hT], fun _ => ⟨hr a (by omega), fun _ => hi a (by omega) (by omega) (by omega)⟩⟩⟩
  have hX : FrX X h h1 := ⟨fun a _ _ => by rw [hT], fun a _ _ _ q _ _ => hr a q, hr10, fun k _ => by rw [hr (X + 34) (by omega)], fun a q1 q2 => hi a (by omega) (by omega) (by omega), fun a q1 q2 => ⟨by rw [hT], hr a (by omega), hi a (by omega) (by omega) (by omega), by rw [hl]⟩⟩
  have hnE : ExO own h (fun _ => False) := fun _ q => q.elim
  refine ⟨⟨hX.gs hD.1 g, ta.fr (hi _ (by omega) (by omega) (by omega)) (hi _ (by omega) (by omega) (by omega)) e32 (er 42 (by decide) (by decide)), ⟨r.1, by rw [e36]; exact r.2.1, by rw [hi X (by omega) (by omega) (by omega)]; exact r.2.2.1, by rw [e41]; exact r.2.2.2⟩, l.frd hnE hD (fun _ _ => rfl) (fun _ _ => by rw [hr _ (by omega)]) (fun k q1 q2 => er k (by omega) q2), hS, fun k hk => (i k hk).frd l hD hX (fun _ _ => rfl) (by rw [hr _ (by omega)]) e81 (by rw [e82])⟩, hX.kp hD.1⟩
theorem call_undo : Call X (f_X11_undo G X) (p_X12_undo G) := by
  intro h w ⟨own, R, hR⟩
  obtain ⟨U, c, t, hc⟩ := hR.cur
  obtain ⟨hB, hSt, hCD, hV, hU, hLg, hU0, hch, hss⟩ := hc
  have hg8 := hR.1.2.2.2.2.2.2.2
  unfold f_X11_undo p_X12_undo f_X6_takeBack
  rw [u_ck hB.1.1, hB.1.2.1, u_ob, u_ck hB.1.2.2.1, u_ck hB.1.2.2.1, hV.1, hU]
  by_cases h0 : U = 0
  · subst h0
    rw [if_pos (by decide), u_cb, if_pos rfl, if_pos (by decide)]; exact stay hR _
  · have hU20 := hV.2.1
    obtain ⟨u, rfl⟩ : ∃ u, U = u + 1 := ⟨U - 1, by omega⟩
    have told : w.1 1 0 = 1 := (told01 hSt.1).resolve_left (fun e => h0 (hU0 e))
    obtain ⟨c', e1, e2, e3, e4, e5⟩ := hch
    obtain ⟨hC, hCa⟩ := hCD.cab told
    rw [if_neg (nI_ne0 (by omega) (by omega)), hB.1.2.2.2.1, u_ob, u_ck (cab_t hC), e1, on_s, u_ob, u_ck (cab_t hC), u_nn, u_nn, u_cb, if_neg n10, u_ck (by exact hB.1.1), if_neg (nI_ne0 (by omega) (by omega)), u_nn, nI_pred, m_i_sr, hV.1, nI_pred]
    have r5 : m_r (m_si (m_sr h (X + 10) 0 (some c')) (X + 10) 1 (nI u)) X 5 = some (X + 10) := by
      show m_r (m_sr h (X + 10) 0 (some c')) X 5 = _
      rw [m_r_srb (by omega)]; exact hB.1.2.1
    rw [e1, r5, u_ob, u_ck (by exact hB.1.2.2.1), m_i_ss, w_si_s]
    obtain ⟨w3, f1, g1, g2, g3, g4⟩ := p_moves_load (G := G) (w := w_si w 0 55 (nI u)) (k := u) (by omega)
    rw [f1, u_ob]
    have g55 : w3.1 0 55 = nI u := by rw [g2 55 (by decide), w_si_j (by decide), w_si_j (by decide), w_si_s]
    have gr : ∀ k, k ≠ 0 → ∀ j, (w_si (w_si (w_si w 0 55 (nI u)) 0 56 (nI (51 * u))) 0 57 1).1 k j = w.1 k j := fun k hk j => by rw [w_si_r hk, w_si_r hk, w_si_r hk]
    have g5 : ∀ k, k ≠ 0 → ∀ j, w3.1 k j = if k = 1 ∧ 10 ≤ j ∧ j < 14 then w.1 53 (51 * u + (j - 10)) else if k = 2 ∧ j < 7 then w.1 53 (51 * u + 4 + j) else if k = 8 ∧ j < 8 then w.1 53 (51 * u + 11 + j) else if k = 9 ∧ j < 8 then w.1 53 (51 * u + 19 + j) else if k = 10 ∧ j < 8 then w.1 53 (51 * u + 27 + j) else if k = 11 ∧ j < 8 then w.1 53 (51 * u + 35 + j) else if k = 12 ∧ j < 8 then w.1 53 (51 * u + 43 + j) else w.1 k j := fun k hk j => by
      rw [g4 k hk, lod_P]
      simp only [gr 53 (by decide), gr k hk]
    have same : ∀ k, (3 ≤ k ∧ k ≤ 7) ∨ 13 ≤ k → w3.1 k = w.1 k := fun k hk => by
      funext j
      rw [g5 k (by omega), if_neg (by omega), if_neg (by omega), if_neg (by omega), if_neg (by omega), if_neg (by omega), if_neg (by omega), if_neg (by omega)]
    have s1 : ∀ i, i < 10 ∨ 14 ≤ i → w3.1 1 i = w.1 1 i := fun i hi => by
      rw [g5 1 (by decide), if_neg (by omega), if_neg (by omega), if_neg (by omega), if_neg (by omega), if_neg (by omega), if_neg (by omega), if_neg (by omega)]
    have ep : PW (pst w.1 u) w3.1 := by
      intro r h1 h2 i hi
      rw [g5 r (by omega)]
      unfold pst
      by_cases c1 : r = 1
      · subst c1
        rw [if_pos rfl]
        by_cases ci : 10 ≤ i ∧ i < 14
        · rw [if_pos ⟨rfl, ci⟩, if_pos ci]
        · rw [if_neg (by omega), if_neg ci, if_neg (by omega), if_neg (by omega), if_neg (by omega), if_neg (by omega), if_neg (by omega), if_neg (by omega)]
      rw [if_neg (by omega), if_neg c1]
      by_cases c2 : r = 2
      · subst c2; have hi : i < 7 := hi; rw [if_pos ⟨rfl, hi⟩, if_pos rfl]
      rw [if_neg (by omega), if_neg c2]
      by_cases c8 : r = 8
      · subst c8; have hi : i < 8 := hi; rw [if_pos ⟨rfl, hi⟩, if_pos rfl]
      rw [if_neg (by omega), if_neg c8]
      by_cases c9 : r = 9
      · subst c9; have hi : i < 8 := hi; rw [if_pos ⟨rfl, hi⟩, if_pos rfl]
      rw [if_neg (by omega), if_neg c9]
      by_cases c10 : r = 10
      · subst c10; have hi : i < 8 := hi; rw [if_pos ⟨rfl, hi⟩, if_pos rfl]
      rw [if_neg (by omega), if_neg c10]
      by_cases c11 : r = 11
      · subst c11; have hi : i < 8 := hi; rw [if_pos ⟨rfl, hi⟩, if_pos rfl]
      rw [if_neg (by omega), if_neg c11]
      by_cases c12 : r = 12
      · subst c12; have hi : i < 8 := hi; rw [if_pos ⟨rfl, hi⟩, if_pos rfl]
      rw [if_neg (by omega), if_neg c12]
    have est : stat w.1 w3.1 := ⟨fun i hi => s1 i (Or.inl hi), fun i q1 q2 => s1 i (Or.inr q1), fun r hr i _ => by rw [same r (by omega)]⟩
    have eold : Old (X + 10) h (m_si (m_sr h (X + 10) 0 (some c')) (X + 10) 1 (nI u)) := (Old.sr (Nat.le_refl _)).tr (Old.si (Nat.le_refl _))
    have ri : ∀ a, a ≠ X + 10 → m_i (m_si (m_sr h (X + 10) 0 (some c')) (X + 10) 1 (nI u)) a = m_i h a := fun a ha => m_i_sb ha
    have rr : ∀ a, a ≠ X + 10 → m_r (m_si (m_sr h (X + 10) 0 (some c')) (X + 10) 1 (nI u)) a = m_r h a := fun a ha => m_r_srb (h := h) ha
    have hnE : ExO own h (fun _ => False) := fun _ q => q.elim
    have hD : FrD X R (fun _ => False) h (m_si (m_sr h (X + 10) 0 (some c')) (X + 10) 1 (nI u)) := ⟨Nat.le_refl _, fun a q1 q2 => ⟨rfl, fun _ => ⟨rr a (by omega), fun _ => ri a (by omega)⟩⟩⟩
    have l := hR.2.2.2.1
    have hO := hR.put (h1 := m_si (m_sr h (X + 10) 0 (some c')) (X + 10) 1 (nI u)) (w2 := w3) rfl rfl rr (fun k hk => by show m_r (m_sr h (X + 10) 0 (some c')) (X + 10) k = _; rw [m_r_srj (by omega)]) (fun a q _ _ => ri a q) rfl (by rw [g2 32 (by decide), w_si_j (by decide), w_si_j (by decide), w_si_j (by decide)]) (by rw [g2 36 (by decide), w_si_j (by decide), w_si_j (by decide), w_si_j (by decide)]) (by rw [g2 41 (by decide), w_si_j (by decide), w_si_j (by decide), w_si_j (by decide)]) (fun r q1 q2 => same r (by omega)) (same 81 (by omega)) (same 82 (by omega)) ⟨u, g55, c', t, ?_, m_r_srs _ _ _ _, Or.inl ⟨by rw [s1 0 (by omega)]; exact told, (e2.frd (st_N8 e4.1) e3 l hnE hD).pw e4.1 ep.p3, e3.frd hD (fun _ _ => rfl)⟩, e4.pw ep.p3, ?_, ?_, fun z => absurd told (by rw [← s1 0 (by omega), z]; decide), ?_⟩
    · exact ⟨_, _, _, rfl, by rw [g55], ⟨own, R, hO.1⟩, hO.2⟩
    · unfold ScS at hss ⊢
      refine ⟨hss.1, ?_, ?_, hss.2.2.2⟩
      · show m_r (m_sr h (X + 10) 0 (some c')) (X + 10) 5 = _
        rw [m_r_srj (by decide)]; exact hss.2.1
      · show m_r (m_sr h (X + 10) 0 (some c')) (X + 10) 6 = _
        rw [m_r_srj (by decide)]; exact hss.2.2.1
    · unfold ScV at hV ⊢
      rw [m_i_ss, m_i_sj (show 2 ≠ 1 by decide), m_i_sj (show 3 ≠ 1 by decide), s1 15 (by omega), s1 16 (by omega)]
      exact ⟨rfl, by omega, hV.2.2⟩
    · unfold LgR at hLg ⊢
      rw [s1 14 (by omega), m_i_sj (show 4 ≠ 1 by decide), ri (X + 31) (by omega), ri (X + 32) (by omega), same 18 (by omega), same 19 (by omega)]
      exact hLg
    · have hsh : Chn own h X t w3.1 u c' := Chn.sh (D := 0) (fun _ => Or.inr trivial) u (fun j hj => (pst_cg est (fun n hn => by rw [same 53 (by omega)]; rfl)).p3) e5
      exact hsh.frd l hnE hD (fun _ _ => rfl) (Or.inr ⟨e3, cab_t e2⟩)
theorem call_log (x y : Int32) : Call X (f_X11_log G X x y) (p_X12_log G x y) := by
  intro h w ⟨own, R, hR⟩
  obtain ⟨U, c, t, hc⟩ := hR.cur
  have hB := hc.1
  have hS := hc.2.1.1
  have hV := hc.2.2.2.1
  have hL := hc.2.2.2.2.2.1
  have hss := hc.2.2.2.2.2.2.2.2
  obtain ⟨g, l1, l2, l3, l4⟩ := hL
  unfold f_X11_log p_X12_log
  by_cases h0 : x = -1
  · rw [if_pos h0, if_pos h0, u_ck hB.1.1, hB.1.2.1, u_ob, u_ck hB.1.2.2.1, u_nn, u_ck ix_17_14, u_nn, tn_14]
    have hF : FrS X h (m_si h (X + 10) 4 0) := Fr.si (by omega)
    refine ⟨_, _, _, rfl, rfl, ⟨own, R, hR.sc hc hF ⟨fun i hi => by rw [w_si_j (by omega)], fun r h1 _ _ => w_si_r (by omega)⟩ (fun k _ => by rw [w_si_r (by decide)]) (m_i_sb (by omega)) ?_ ?_ (hR.2.1.fr (m_i_sb (by omega)) (m_i_sb (by omega)) (by rw [w_si_r (by decide)]) (w_si_r (by decide)))⟩, hF.kp⟩
    · unfold ScV at hV ⊢
      rw [m_i_sj (show 1 ≠ 4 by decide), m_i_sj (show 2 ≠ 4 by decide), m_i_sj (show 3 ≠ 4 by decide), w_si_j (show 15 ≠ 14 by decide), w_si_j (show 16 ≠ 14 by decide)]
      exact hV
    · exact ⟨0, by decide, w_si_s _ _ _ _, m_i_ss _ _ _ _, fun k hk => absurd hk (by omega)⟩
  · rw [if_neg h0, if_neg h0, u_ck hB.1.1, c_hasTrain hB hS, u_cb, u_ck ix_17_14, u_nn, tn_14, p_isTrain hS, u_cw, l2]
    rcases told01 hS with q | q
    · rw [q, if_pos rfl, if_pos rfl]; exact stay hR _
    · rw [q, if_neg n10, if_neg n10, rng_lt, p_in60, u_cw]
      by_cases h1 : 0 ≤ x ∧ x ≤ 60
      · rw [if_pos h1, if_pos h1, if_neg n10, c_isWarmth, u_cb, p_in60, u_cw]
        by_cases h2 : 0 ≤ y ∧ y ≤ 60
        · rw [if_pos h2, if_neg n10, if_neg n10, u_ck hB.1.1, hB.1.2.1, u_ob, u_ck hB.1.2.2.1]
          unfold f_X6_addLog
          rw [u_ck hB.1.2.2.1, l3]
          by_cases h3 : g = 10
          · subst h3
            rw [if_neg (by decide), u_cb, if_pos rfl, if_pos (by decide)]; exact stay hR _
          · have b60 : ∀ z : Int32, 0 ≤ z ∧ z ≤ 60 → bd z 0 60 := fun z hz => by
              have z1 := hz.1; have z2 := hz.2
              rw [I_le] at z1 z2; exact ⟨z1, z2⟩
            have hgl : nI g < (10 : Int32) := nI_lt (b := 10) (by omega) (by decide)
            have hge : ¬ nI g = (10 : Int32) := fun e => h3 ((nI_eq (b := 10) (by omega) (by decide)).mp e)
            have e4 : m_i (m_si h (X + 31) g x) (X + 10) 4 = nI g := by rw [m_i_sb (by omega)]; exact l3
            have e5 : m_i (m_si (m_si h (X + 31) g x) (X + 32) g y) (X + 10) 4 = nI g := by rw [m_i_sb (by omega)]; exact e4
            rw [if_pos hgl, hss.2.1, u_ob, u_ck (ixb_e hss.2.2.2.1 (by omega) (by decide)), u_nn, nI_clamp (by omega), m_r_si, hss.2.2.1, u_ob, e4, u_ck (by rw [ixb_si]; exact ixb_e hss.2.2.2.2 (by omega) (by decide)), u_nn, nI_clamp (by omega), e5, u_nn, nI_1, u_cb, if_neg n10, u_ck (by exact hB.1.1)]
            rw [show m_r (m_si (m_si (m_si h (X + 31) g x) (X + 32) g y) (X + 10) 4 (nI (g + 1))) X 5 = some (X + 10) from hB.1.2.1, u_ob, u_ck (by exact hB.1.2.2.1), m_i_ss, if_neg hge, u_ck (u_ixn (by omega) (by decide)), u_nn, u_ck (u_ixn (by omega) (by decide)), u_nn, u_ck ix_17_14, u_ck ix_17_14, u_nn]
            have e14 : (w_si (w_si w 18 g x) 19 g y).1 1 14 = nI g := by rw [w_si_r (by decide), w_si_r (by decide)]; exact l2
            rw [e14, nI_1]
            have hF : FrS X h (m_si (m_si (m_si h (X + 31) g x) (X + 32) g y) (X + 10) 4 (nI (g + 1))) := ((Fr.si (by omega)).tr (Fr.si (by omega))).tr (Fr.si (by omega))
            refine ⟨_, _, _, rfl, rfl, ⟨own, R, hR.sc hc hF ⟨fun i hi => by rw [w_si_j (by omega), w_si_r (by decide), w_si_r (by decide)], fun r h1 h2 h3 => by rw [w_si_r (by omega), w_si_r h3, w_si_r h2]⟩ (fun k _ => by rw [w_si_r (by decide), w_si_r (by decide), w_si_r (by decide)]) (by rw [m_i_sb (by omega), m_i_sb (by omega), m_i_sb (by omega)]) ?_ ?_ (hR.2.1.fr (by rw [m_i_sb (by omega), m_i_sb (by omega), m_i_sb (by omega)]) (by rw [m_i_sb (by omega), m_i_sb (by omega), m_i_sb (by omega)]) (by rw [w_si_r (by decide), w_si_r (by decide), w_si_r (by decide)]) (by rw [w_si_r (by decide), w_si_r (by decide), w_si_r (by decide)]))⟩, hF.kp⟩
            · unfold ScV at hV ⊢
              rw [m_i_sj (show 1 ≠ 4 by decide), m_i_sj (show 2 ≠ 4 by decide), m_i_sj (show 3 ≠ 4 by decide), m_i_sb (show X + 10 ≠ X + 32 by omega), m_i_sb (show X + 10 ≠ X + 31 by omega), w_si_j (show 15 ≠ 14 by decide), w_si_j (show 16 ≠ 14 by decide), w_si_r (show 1 ≠ 19 by decide), w_si_r (show 1 ≠ 18 by decide)]
              exact hV
            · refine ⟨g + 1, by omega, w_si_s _ _ _ _, m_i_ss _ _ _ _, fun k hk => ?_⟩
              rw [m_i_sb (show X + 31 ≠ X + 10 by omega), m_i_sb (show X + 32 ≠ X + 10 by omega), m_i_sb (show X + 31 ≠ X + 32 by omega), w_si_r (show 18 ≠ 1 by decide), w_si_r (show 19 ≠ 1 by decide), w_si_r (show 18 ≠ 19 by decide)]
              by_cases hk2 : k = g
              · subst hk2
                rw [m_i_ss, m_i_ss, w_si_s, w_si_s]
                exact ⟨rfl, rfl, b60 x h1, b60 y h2⟩
              · rw [m_i_sj hk2, m_i_sj hk2, w_si_j hk2, w_si_j hk2, m_i_sb (show X + 32 ≠ X + 31 by omega), w_si_r (show 19 ≠ 18 by decide)]
                exact l4 k (by omega)
        · rw [if_neg h2, if_pos rfl, if_pos rfl]; exact stay hR _
      · rw [if_neg h1, if_neg h1, if_pos rfl]; exact stay hR _
end
