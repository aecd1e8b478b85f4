/-! PURE 99yt: rule, the call. -/
section
variable {G : GG} {own own' : Nat → Nat} {R R' X c t U n : Nat} {h h1 h' : AH} {w w2 wq : MS} {v v' v0 : VV} {Ex : Nat → Prop}
theorem ScR.up {s a5 a6 : Nat} (hS : ScR own R h X s a5 a6 v U) (hR : R ≤ R') : ScR own R' h X s a5 a6 v U := by
  obtain ⟨c, t, s1, s2, s3, s4, s5, s6, s7, s8⟩ := hS
  obtain ⟨v1, v2, v3, v4, v5⟩ := s5
  refine ⟨c, t, s1, s2, s3, s4, ⟨v1, v2, v3, ?_, v5⟩, s6, s7, s8⟩
  rcases v4 with q | ⟨r, q1, q2⟩
  · exact Or.inl q
  · exact Or.inr ⟨r, by omega, q2⟩
theorem ImR.up {k : Nat} (hI : ImR own R h X v k) (hR : R ≤ R') : ImR own R' h X v k := by
  rcases hI with a | ⟨a, s, U, b, cc, d, f, g, sc⟩
  · exact Or.inl a
  · exact Or.inr ⟨a, s, U, b, cc, d, f, g, sc.up hR⟩
theorem LwR.cgE (hL : LwR own R h X v) (e : ∀ r, r < R → (∀ k, k < 300 → ent v' r k = ent v r k) ∧ v' 45 r = v 45 r ∧ ∀ c, c < 12 → v' 46 (12 * r + c) = v 46 (12 * r + c) ∧ v' 47 (12 * r + c) = v 47 (12 * r + c) ∧ v' 48 (12 * r + c) = v 48 (12 * r + c)) : LwR own R h X v' := fun r hr => by
  obtain ⟨L, e1, e2, e3, e4⟩ := hL r hr
  obtain ⟨a, b, d⟩ := e r hr
  exact ⟨L, e1, e2, e3.cgE a b d, e4⟩
theorem call_rule (hG : GI G) : Call X (f_X11_rule G X) (p_X12_rule G) := by
  intro h w ⟨own, R, hR⟩
  obtain ⟨g, ta, r, l, ⟨U, u, sc⟩, i⟩ := id hR
  have hX : X + 122 ≤ m_n h := g.2.2.2.2.2.2.2
  have gA := g.1
  by_cases h6 : R = 6
  · have z4 : ¬ m_i h X 4 < (6 : Int32) := by rw [r.2.2.1, h6]; decide
    refine ⟨-1, h, w, ?_, ?_, ⟨own, R, hR⟩, Nat.le_refl _, fun a _ _ => ⟨rfl, rfl, rfl, rfl⟩⟩
    · unfold f_X11_rule
      rw [u_ck gA.1, if_neg z4]
    · unfold p_X12_rule
      rw [if_pos (show w.1 0 36 = (6 : Int32) by rw [r.2.1, h6]; rfl)]
  have hR6 : R < 6 := by have := r.1; omega
  obtain ⟨h5, w', c', e1, e2, e3⟩ := rule_read (G := G) hG g ta hR6 r.2.1 r.2.2.2
  obtain ⟨b1, b2, b3, b4, b5, b6, b7, b8, b9⟩ := e3
  obtain ⟨p1, p2, p3, p4, p5⟩ := rd7 g.2.1
  have t1 : m_t h5 (X + 1) = .inl 8 := (rd7 b1).2.2.1
  have o5 : ∀ a, a < m_n h → m_t h5 a = m_t h a ∧ m_r h5 a = m_r h a := fun a ha => ⟨(b5 a ha).1, (b5 a ha).2.1⟩
  have i4 : m_i (m_si h5 (X + 1) 1 0) X 4 = nI R := by rw [m_i_sb (by omega), ((b5 X (by omega)).2.2 (by unfold RdL; omega)).1]; exact r.2.2.1
  have cl : f_X11_rule G X h = (on (if w'.1 0 34 = 0 then some (m_n h) else none) (ob (m_r (m_si h5 (X + 1) 1 0) X 0) fun b14 => ck (m_t (m_si h5 (X + 1) 1 0) b14 = .inl 8) <| some ((-2 : Int32) - (m_i (m_si h5 (X + 1) 1 0) b14 9), m_si h5 (X + 1) 1 0)) fun b12 => ob (m_r (m_si h5 (X + 1) 1 0) X 3) fun b16 => ck (m_t (m_si h5 (X + 1) 1 0) b12 = .inl 2) <| ck (ixb (m_si h5 (X + 1) 1 0) b16 (.object RX2) (m_i (m_si h5 (X + 1) 1 0) X 4) = true) <| nn (m_sr (m_si h5 (X + 1) 1 0) b16 (m_i (m_si h5 (X + 1) 1 0) X 4).toNatClampNeg (some b12)) fun h20 => nn (m_si h20 X 4 ((m_i h20 X 4) + (1 : Int32))) fun h21 => some ((m_i h21 X 4) - (1 : Int32), h21)) := by
    unfold f_X11_rule
    rw [u_ck gA.1, if_pos (show m_i h X 4 < (6 : Int32) by rw [r.2.2.1]; exact nI_lt (b := 6) hR6 (by omega)), gA.2.2.2.1, u_ob, u_ck p1, e1, u_cb, u_ck (show m_t h5 X = .inl 11 by rw [(o5 X (by omega)).1]; exact gA.1), (o5 X (by omega)).2, gA.2.1, u_ob, u_ck t1, u_nn]
  have s0 : ScS h (X + 10) (X + 31) (X + 32) := by obtain ⟨_, _, s1, -⟩ := sc; exact s1
  have hnE : ExO own h (fun _ => False) := fun _ q => q.elim
  -- the reference's rows, whatever came
  have ew : ∀ y : Int32, ∀ x, x ≠ 0 → x ≠ 43 → x ≠ 44 → x ≠ 45 → x ≠ 46 → x ≠ 47 → x ≠ 48 → x ≠ 49 → (w_si (w_si (w_si w' 0 32 0) 45 R (nI c')) 0 36 y).1 x = w.1 x := fun y x u1 u2 u3 u4 u5 u6 u7 u8 => by rw [w_si_r u1, w_si_r u4, w_si_r u1, b6 x u1 u2 u3 u5 u6 u7 u8]
  have ez : ∀ y : Int32, ∀ j, ¬ (32 ≤ j ∧ j ≤ 40) → (w_si (w_si (w_si w' 0 32 0) 45 R (nI c')) 0 36 y).1 0 j = w.1 0 j := fun y j hj => by rw [w_si_j (by omega), w_si_r (by decide), w_si_j (by omega), b7 j (by omega)]
  have eL : ∀ y : Int32, ∀ r, r < R → (∀ k, k < 300 → ent (w_si (w_si (w_si w' 0 32 0) 45 R (nI c')) 0 36 y).1 r k = ent w.1 r k) ∧ (w_si (w_si (w_si w' 0 32 0) 45 R (nI c')) 0 36 y).1 45 r = w.1 45 r ∧ ∀ c, c < 12 → (w_si (w_si (w_si w' 0 32 0) 45 R (nI c')) 0 36 y).1 46 (12 * r + c) = w.1 46 (12 * r + c) ∧ (w_si (w_si (w_si w' 0 32 0) 45 R (nI c')) 0 36 y).1 47 (12 * r + c) = w.1 47 (12 * r + c) ∧ (w_si (w_si (w_si w' 0 32 0) 45 R (nI c')) 0 36 y).1 48 (12 * r + c) = w.1 48 (12 * r + c) := fun y r hr => by
    refine ⟨fun k hk => ?_, ?_, fun c hc => ?_⟩
    · have := b8.1 (300 * r + k) (by omega)
      unfold ent
      rw [w_si_r (by decide), w_si_r (by decide), w_si_r (by decide), w_si_r (by decide), w_si_r (by decide), w_si_r (by decide), this.1, this.2]
    · rw [w_si_r (by decide), w_si_j (by omega), w_si_r (by decide), b6 45 (by decide) (by decide) (by decide) (by decide) (by decide) (by decide) (by decide)]
    · have := b8.2 (12 * r + c) (by omega)
      rw [w_si_r (by decide), w_si_r (by decide), w_si_r (by decide), w_si_r (by decide), w_si_r (by decide), w_si_r (by decide), w_si_r (by decide), w_si_r (by decide), w_si_r (by decide)]
      exact this
  have e32 : ∀ y : Int32, (w_si (w_si (w_si w' 0 32 0) 45 R (nI c')) 0 36 y).1 0 32 = 0 := fun y => by rw [w_si_j (by decide), w_si_r (by decide), w_si_s]
  have epw : ∀ y : Int32, PW w.1 (w_si (w_si (w_si w' 0 32 0) 45 R (nI c')) 0 36 y).1 := fun y r q1 q2 i _ => by rw [ew y r (by omega) (by omega) (by omega) (by omega) (by omega) (by omega) (by omega) (by omega)]
  have e36 : ∀ y : Int32, (w_si (w_si (w_si w' 0 32 0) 45 R (nI c')) 0 36 y).1 0 36 = y := fun y => w_si_s _ _ _ _
  have e45 : ∀ y : Int32, (w_si (w_si (w_si w' 0 32 0) 45 R (nI c')) 0 36 y).1 45 R = nI c' := fun y => by rw [w_si_r (by decide), w_si_s]
  have eX : ∀ y : Int32, ∀ x, x = 43 ∨ x = 44 ∨ x = 46 ∨ x = 47 ∨ x = 48 → (w_si (w_si (w_si w' 0 32 0) 45 R (nI c')) 0 36 y).1 x = w'.1 x := fun y x hx => by rw [w_si_r (by omega), w_si_r (by omega), w_si_r (by omega)]
  by_cases z : w'.1 0 34 = 0
  rotate_left
  · -- a fault
    rw [if_neg z] at e2
    rw [if_neg z, on_n, m_r_si, (o5 X (by omega)).2, gA.2.1, u_ob, m_t_si, u_ck t1, m_i_sj (by decide), b2] at cl
    replace ew := ew (nI R)
    replace ez := ez (nI R)
    replace eL := eL (nI R)
    replace e32 := e32 (nI R)
    replace epw := epw (nI R)
    replace e36 := e36 (nI R)
    clear e45 eX
    generalize w_si (w_si (w_si w' 0 32 0) 45 R (nI c')) 0 36 (nI R) = wz at e2 ew ez eL e32 epw e36
    have oi : ∀ a, a < m_n h → ¬ RdL X a → m_i (m_si h5 (X + 1) 1 0) a = m_i h a ∧ m_l (m_si h5 (X + 1) 1 0) a = m_l h a := fun a ha q => ⟨by rw [m_i_sb (by unfold RdL at q; omega)]; exact ((b5 a ha).2.2 q).1, ((b5 a ha).2.2 q).2⟩
    have hD : FrD X R (fun _ => False) h (m_si h5 (X + 1) 1 0) := ⟨b4, fun a q1 q2 => ⟨(o5 a q2).1, fun _ => ⟨(o5 a q2).2, fun _ => (oi a q2 (by unfold RdL; omega)).1⟩⟩⟩
    have hF : FrX X h (m_si h5 (X + 1) 1 0) := ⟨fun a _ _ => (o5 a (by omega)).1, fun a _ _ _ _ _ _ => (o5 a (by omega)).2, fun k _ => by rw [m_r_si, (o5 _ (by omega)).2], fun k _ => by rw [m_r_si, (o5 _ (by omega)).2], fun a q1 q2 => (oi a (by omega) (by unfold RdL; omega)).1, fun a q1 q2 => ⟨(o5 a (by omega)).1, (o5 a (by omega)).2, oi a (by omega) (by unfold RdL; omega)⟩⟩
    have hss : ScS (m_si h5 (X + 1) 1 0) (X + 10) (X + 31) (X + 32) := by
      unfold ScS at s0 ⊢
      rw [hF.1 _ (by omega) (by omega), hF.1 _ (by omega) (by omega), hF.1 _ (by omega) (by omega), hF.2.2.1 5 (by decide), hF.2.2.1 6 (by decide)]; exact s0
    have l1 : LwR own R (m_si h5 (X + 1) 1 0) X w.1 := l.frd hnE hD (fun _ _ => rfl) (fun _ _ => by rw [m_r_si, (o5 _ (by omega)).2]) (fun _ _ _ => rfl)
    refine ⟨_, _, _, cl, e2, ⟨own, R, hF.gs hD.1 g, ⟨0, by decide, e32, m_i_ss _ _ _ _, fun i hi => by omega⟩, ⟨r.1, e36, i4, by rw [ez 41 (by omega)]; exact r.2.2.2⟩, l1.cgE eL, ⟨U, by rw [ez 55 (by omega)]; exact u, ?_⟩, fun k hk => (i k hk).frd l hD hF (fun _ _ => rfl) (by rw [m_r_si, (o5 _ (by omega)).2]) (ew 81 (by decide) (by decide) (by decide) (by decide) (by decide) (by decide) (by decide) (by decide)) (by rw [ew 82 (by decide) (by decide) (by decide) (by decide) (by decide) (by decide) (by decide) (by decide)])⟩, hF.kp hD.1⟩
    exact (sc.cp l hnE hD hF (fun _ _ => rfl) hss (by rw [m_r_si, (o5 _ (by omega)).2]) (fun _ _ _ => by rw [(oi _ (by omega) (by unfold RdL; omega)).1]) (fun _ _ => by rw [(oi _ (by omega) (by unfold RdL; omega)).1, (oi _ (by omega) (by unfold RdL; omega)).1]; exact ⟨rfl, rfl⟩)).pw epw (fun n _ => by rw [ew 53 (by decide) (by decide) (by decide) (by decide) (by decide) (by decide) (by decide) (by decide)])
  · -- a rule
    obtain ⟨k1, k2, k3, E, k4, k5, k6⟩ := b9 z
    rw [if_pos z] at e2
    have t9 : m_t (m_si h5 (X + 1) 1 0) (X + 9) = .inr (.object RX2, 6) := by rw [m_t_si, (o5 _ (by omega)).1]; exact g.2.2.1.1
    have i4' : m_i (m_sr (m_si h5 (X + 1) 1 0) (X + 9) R (some (m_n h))) X 4 = nI R := by rw [m_i_sr]; exact i4
    rw [if_pos z, on_s, m_r_si, (o5 X (by omega)).2, gA.2.2.2.2.1, u_ob, m_t_si, u_ck k2.1, i4, u_ck (ixb_e t9 hR6 (by decide)), nI_clamp (by omega), u_nn, i4', nI_1, u_nn, m_i_ss, nI_pred] at cl
    replace ew := ew (nI (R + 1))
    replace ez := ez (nI (R + 1))
    replace eL := eL (nI (R + 1))
    replace e32 := e32 (nI (R + 1))
    replace epw := epw (nI (R + 1))
    replace e36 := e36 (nI (R + 1))
    replace e45 := e45 (nI (R + 1))
    replace eX := eX (nI (R + 1))
    generalize w_si (w_si (w_si w' 0 32 0) 45 R (nI c')) 0 36 (nI (R + 1)) = wz at e2 ew ez eL e32 epw e36 e45 eX
    -- the class's memory
    have T' : ∀ a, m_t (m_si (m_sr (m_si h5 (X + 1) 1 0) (X + 9) R (some (m_n h))) X 4 (nI (R + 1))) a = m_t h5 a := fun a => rfl
    have R' : ∀ a, a ≠ X + 9 → m_r (m_si (m_sr (m_si h5 (X + 1) 1 0) (X + 9) R (some (m_n h))) X 4 (nI (R + 1))) a = m_r h5 a := fun a q => by rw [m_r_si, m_r_srb q, m_r_si]
    have R9 : ∀ k, k ≠ R → m_r (m_si (m_sr (m_si h5 (X + 1) 1 0) (X + 9) R (some (m_n h))) X 4 (nI (R + 1))) (X + 9) k = m_r h5 (X + 9) k := fun k q => by rw [m_r_si, m_r_srj q, m_r_si]
    have R9' : m_r (m_si (m_sr (m_si h5 (X + 1) 1 0) (X + 9) R (some (m_n h))) X 4 (nI (R + 1))) (X + 9) R = some (m_n h) := by rw [m_r_si]; exact m_r_srs _ _ _ _
    have I' : ∀ a, a ≠ X → a ≠ X + 1 → m_i (m_si (m_sr (m_si h5 (X + 1) 1 0) (X + 9) R (some (m_n h))) X 4 (nI (R + 1))) a = m_i h5 a := fun a q1 q2 => by rw [m_i_sb q1, m_i_sr, m_i_sb q2]
    have I1 : m_i (m_si (m_sr (m_si h5 (X + 1) 1 0) (X + 9) R (some (m_n h))) X 4 (nI (R + 1))) (X + 1) 1 = 0 := by rw [m_i_sb (by omega), m_i_sr, m_i_ss]
    have IX : m_i (m_si (m_sr (m_si h5 (X + 1) 1 0) (X + 9) R (some (m_n h))) X 4 (nI (R + 1))) X 4 = nI (R + 1) := m_i_ss _ _ _ _
    have L' : ∀ a, m_l (m_si (m_sr (m_si h5 (X + 1) 1 0) (X + 9) R (some (m_n h))) X 4 (nI (R + 1))) a = m_l h5 a := fun a => rfl
    have N' : m_n (m_si (m_sr (m_si h5 (X + 1) 1 0) (X + 9) R (some (m_n h))) X 4 (nI (R + 1))) = m_n h + 4 := k1
    generalize m_si (m_sr (m_si h5 (X + 1) 1 0) (X + 9) R (some (m_n h))) X 4 (nI (R + 1)) = hz at cl T' R' R9 R9' I' I1 IX L' N'
    have oi : ∀ a, a < m_n h → ¬ RdL X a → a ≠ X → m_i hz a = m_i h a ∧ m_l hz a = m_l h a := fun a ha q q2 => ⟨by rw [I' a q2 (by unfold RdL at q; omega)]; exact ((b5 a ha).2.2 q).1, by rw [L']; exact ((b5 a ha).2.2 q).2⟩
    have ot : ∀ a, a < m_n h → m_t hz a = m_t h a := fun a ha => by rw [T']; exact (o5 a ha).1
    have orr : ∀ a, a < m_n h → a ≠ X + 9 → m_r hz a = m_r h a := fun a ha q => by rw [R' a q]; exact (o5 a ha).2
    have hD : FrD X R (fun _ => False) h hz := ⟨by omega, fun a q1 q2 => ⟨ot a q2, fun _ => ⟨orr a q2 (by omega), fun _ => (oi a q2 (by unfold RdL; omega) (by omega)).1⟩⟩⟩
    have hF : FrX X h hz := ⟨fun a _ _ => ot a (by omega), fun a _ _ q _ _ _ => orr a (by omega) q, fun k _ => by rw [orr _ (by omega) (by omega)], fun k _ => by rw [orr _ (by omega) (by omega)], fun a q1 q2 => (oi a (by omega) (by unfold RdL; omega) (by omega)).1, fun a q1 q2 => ⟨ot a (by omega), orr a (by omega) (by omega), oi a (by omega) (by unfold RdL; omega) (by omega)⟩⟩
    have hss : ScS hz (X + 10) (X + 31) (X + 32) := by
      unfold ScS at s0 ⊢
      rw [hF.1 _ (by omega) (by omega), hF.1 _ (by omega) (by omega), hF.1 _ (by omega) (by omega), hF.2.2.1 5 (by decide), hF.2.2.1 6 (by decide)]; exact s0
    have ho : ∀ a, a < m_n h → (fun a => if m_n h ≤ a then m_n h else own a) a = own a := fun a ha => if_neg (by omega)
    have l1 : LwR (fun a => if m_n h ≤ a then m_n h else own a) R hz X w.1 := l.frd hnE hD ho (fun r hr => by rw [R9 r (by omega), (o5 _ (by omega)).2]) (fun _ _ _ => rfl)
    have hLaw : LawV hz (m_n h) wz.1 R := LwC.law (E := E) (c := c') ((k6.vv eX).g (fun j _ => by rw [I' _ (by omega) (by omega)])) k3 k4 (by rw [T']; exact k5) e45
    refine ⟨_, _, _, cl, e2, ⟨_, R + 1, hF.gs hD.1 g, ⟨0, by decide, e32, I1, fun i hi => by omega⟩, ⟨by omega, e36, IX, by rw [ez 41 (by omega)]; exact r.2.2.2⟩, fun q hq => ?_, ⟨U, by rw [ez 55 (by omega)]; exact u, ?_⟩, fun k hk => ((i k hk).frd l hD hF ho (by rw [orr _ (by omega) (by omega)]) (ew 81 (by decide) (by decide) (by decide) (by decide) (by decide) (by decide) (by decide) (by decide)) (by rw [ew 82 (by decide) (by decide) (by decide) (by decide) (by decide) (by decide) (by decide) (by decide)])).up (by omega)⟩, hF.kp hD.1⟩
    · by_cases y : q < R
      · exact (l1.cgE eL) q y
      · have : q = R := by omega
        subst this
        exact ⟨m_n h, R9', k2.hp (fun a _ _ => T' a) (R' _ (by omega)), hLaw, hX, by omega, fun a q1 q2 => if_pos q1⟩
    · exact ((sc.cp l hnE hD hF ho hss (by rw [orr _ (by omega) (by omega)]) (fun _ _ _ => by rw [(oi _ (by omega) (by unfold RdL; omega) (by omega)).1]) (fun _ _ => by rw [(oi _ (by omega) (by unfold RdL; omega) (by omega)).1, (oi _ (by omega) (by unfold RdL; omega) (by omega)).1]; exact ⟨rfl, rfl⟩)).pw epw (fun n _ => by rw [ew 53 (by decide) (by decide) (by decide) (by decide) (by decide) (by decide) (by decide) (by decide)])).up (by omega)
end
