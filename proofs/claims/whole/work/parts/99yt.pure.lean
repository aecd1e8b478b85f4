/-! PURE 99yt: rule, the call. -/
section
variable {G : GG} {own own' : Nat → Nat} {R R' X c t U n : Nat} {h h1 h' : AH} {w w2 wq : MS} {v v' v0 : VV} {Ex : Nat → Prop}
theorem ScR.up {s a5 a6 : Nat} (hS : ScR own R h X s a5 a6 v U) (hR : R ≤ R') : ScR own R' h X s a5 a6 v U := by
  obtain ⟨c, t, s1, s2, s3, s4, s5, s6, s7, s8⟩ := hS
  obtain ⟨v1, v2, v3, v4, v5⟩ := s5
  refine ⟨c, t, s1, s2, s3, s4, ⟨v1, v2, v3, ?_, v5⟩, s6, s7, s8⟩
  rcases v4 with q | ⟨r, q1, q2⟩
  · exact Or.inl q
  · exact Or.inr ⟨r, by omega, q2⟩
theorem ImR.up {k : Nat} (hI : ImR own R h X v k) (hR : R ≤ R') : ImR own R' h X v k := by
  rcases hI with a | ⟨a, s, U, b, cc, d, f, g, sc⟩
  · exact Or.inl a
  · exact Or.inr ⟨a, s, U, b, cc, d, f, g, sc.up hR⟩
theorem LwR.cgE (hL : LwR own R h X v) (e : ∀ r, r < R → (∀ k, k < 300 → ent v' r k = ent v r k) ∧ v' 45 r = v 45 r ∧ ∀ c, c < 12 → v' 46 (12 * r + c) = v 46 (12 * r + c) ∧ v' 47 (12 * r + c) = v 47 (12 * r + c) ∧ v' 48 (12 * r + c) = v 48 (12 * r + c)) : LwR own R h X v' := fun r hr => by
  obtain ⟨L, e1, e2, e3, e4⟩ := hL r hr
  obtain ⟨a, b, d⟩ := e r hr
  exact ⟨L, e1, e2, e3.cgE a b d, e4⟩
theorem call_rule (hG : GI G) : Call X (f_X11_rule G X) (p_X12_rule G) := by
  intro h w ⟨own, R, hR⟩
  obtain ⟨g, ta, r, l, ⟨U, u, sc⟩, i⟩ := id hR
  have hX : X + 122 ≤ m_n h := g.2.2.2.2.2.2.2
  have gA := g.1
  by_cases h6 : R = 6
  · have z4 : ¬ m_i h X 4 < (6 : Int32) := by rw [r.2.2.1, h6]; decide
    refine ⟨-1, h, w, ?_, ?_, ⟨own, R, hR⟩, Nat.le_refl _, fun a _ _ => ⟨rfl, rfl, rfl, rfl⟩⟩
    · unfold f_X11_rule
      rw [u_ck gA.1, if_neg z4]
    · unfold p_X12_rule
      rw [if_pos (show w.1 0 36 = (6 : Int32) by rw [r.2.1, h6]; rfl)]
  have hR6 : R < 6 := by have := r.1; omega
  obtain ⟨h5, w', c', e1, e2, e3⟩ := rule_read (G := G) hG g ta hR6 r.2.1 r.2.2.2
  obtain ⟨b1, b2, b3, b4, b5, b6, b7, b8, b9⟩ := e3
  obtain ⟨p1, p2, p3, p4, p5⟩ := rd7 g.2.1
  have t1 : m_t h5 (X + 1) = .inl 8 := (rd7 b1).2.2.1
  have o5 : ∀ a, a < m_n h → m_t h5 a = m_t h a ∧ m_r h5 a = m_r h a := fun a ha => ⟨(b5 a ha).1, (b5 a ha).2.1⟩
  have i4 : m_i (m_si h5 (X + 1) 1 0) X 4 = nI R := by rw [m_i_sb (by omega), ((b5 X (by omega)).2.2 (by unfold RdL; omega)).1]; exact r.2.2.1
  have cl : f_X11_rule G X h = (on (if w'.1 0 34 = 0 then some (m_n h) else none) (ob (m_r (m_si h5 (X + 1) 1 0) X 0) fun b14 => ck (m_t (m_si h5 (X + 1) 1 0) b14 = .inl 8) <| some ((-2 : Int32) - (m_i (m_si h5 (X + 1) 1 0) b14 9), m_si h5 (X + 1) 1 0)) fun b12 => ob (m_r (m_si h5 (X + 1) 1 0) X 3) fun b16 => ck (m_t (m_si h5 (X + 1) 1 0) b12 = .inl 2) <| ck (ixb (m_si h5 (X + 1) 1 0) b16 (.object RX2) (m_i (m_si h5 (X + 1) 1 0) X 4) = true) <| nn (m_sr (m_si h5 (X + 1) 1 0) b16 (m_i (m_si h5 (X + 1) 1 0) X 4).toNatClampNeg (some b12)) fun h20 => nn (m_si h20 X 4 ((m_i h20 X 4) + (1 : Int32))) fun h21 => some ((m_i h21 X 4) - (1 : Int32), h21)) := by
    unfold f_X11_rule
    rw [u_ck gA.1, if_pos (show m_i h X 4 < (6 : Int32) by rw [r.2.2.1]; exact nI_lt (b := 6) hR6 (by omega)), gA.2.2.2.1, u_ob, u_ck p1, e1, u_cb, u_ck (show m_t h5 X = .inl 11 by rw [(o5 X (by omega)).1]; exact gA.1), (o5 X (by omega)).2, gA.2.1, u_ob, u_ck t1, u_nn]
  have s0 : ScS h (X + 10) (X + 31) (X + 32) := by obtain ⟨_, _, s1, -⟩ := sc; exact s1
  have hnE : ExO own h (fun _ => False) := fun _ q => q.elim
  -- the reference's rows, whatever came
  have ew : ∀ y : Int32, ∀ x, x ≠ 0 → x ≠ 43 → x ≠ 44 → x ≠ 45 → x ≠ 46 → x ≠ 47 → x ≠ 48 → x ≠ 49 → (w_si (w_si (w_si w' 0 32 0) 45 R (nI c')) 0 36 y).1 x = w.1 x := fun y x u1 u2 u3 u4 u5 u6 u7 u8 => by rw [w_si_r u1, w_si_r u4, w_si_r u1, b6 x u1 u2 u3 u5 u6 u7 u8]
  have ez : ∀ y : Int32, ∀ j, ¬ (32 ≤ j ∧ j ≤ 40) → (w_si (w_si (w_si w' 0 32 0) 45 R (nI c')) 0 36 y).1 0 j = w.1 0 j := fun y j hj => by rw [w_si_j (by omega), w_si_r (by decide), w_si_j (by omega), b7 j (by omega)]
  have eL : ∀ y : Int32, ∀ r, r < R → (∀ k, k < 300 → ent (w_si (w_si (w_si w' 0 32 0) 45 R (nI c')) 0 36 y).1 r k = ent w.1 r k) ∧ (w_si (w_si (w_si w' 0 32 0) 45 R (nI c')) 0 36 y).1 45 r = w.1 45 r ∧ ∀ c, c < 12 → (w_si (w_si (w_si w' 0 32 0) 45 R (nI c')) 0 36 y).1 46 (12 * r + c) = w.1 46 (12 * r + c) ∧ (w_si (w_si (w_si w' 0 32 0) 45 R (nI c')) 0 36 y).1 47 (12 * r + c) = w.1 47 (12 * r + c) ∧ (w_si (w_si (w_si w' 0 32 0) 45 R (nI c')) 0 36 y).1 48 (12 * r + c) = w.1 48 (12 * r + c) := fun y r hr => by
    refine ⟨fun k hk => ?_, ?_, fun c hc => ?_⟩
    · have := b8.1 (300 * r + k) (by omega)
      unfold ent
      rw [w_si_r (by decide), w_si_r (by decide), w_si_r (by decide), w_si_r (by decide), w_si_r (by decide), w_si_r (by decide), this.1, this.2]
    · rw [w_si_r (by decide), w_si_j (by omega), w_si_r (by decide), b6 45 (by decide) (by decide) (by decide) (by decide) (by decide) (by decide) (by decide)]
    · have := b8.2 (12 * r + c) (by omega)
      rw [w_si_r (by decide), w_si_r (by decide), w_si_r (by decide), w_si_r (by decide), w_si_r (by decide), w_si_r (by decide), w_si_r (by decide), w_si_r (by decide), w_si_r (by decide)]
      exact this
  have e32 : ∀ y : Int32, (w_si (w_si (w_si w' 0 32 0) 45 R (nI c')) 0 36 y).1 0 32 = 0 := fun y => by rw [w_si_j (by decide), w_si_r (by decide), w_si_s]
  have epw : ∀ y : Int32, PW w.1 (w_si (w_si (w_si w' 0 32 0) 45 R (nI c')) 0 36 y).1 := fun y r q1 q2 i _ => by rw [ew y r (by omega) (by omega) (by omega) (by omega) (by omega) (by omega) (by omega) (by omega)]
  have e36 : ∀ y : Int32, (w_si (w_si (w_si w' 0 32 0) 45 R (nI c')) 0 36 y).1 0 36 = y := fun y => w_si_s _ _ _ _
  have e45 : ∀ y : Int32, (w_si (w_si (w_si w' 0 32 0) 45 R (nI c')) 0 36 y).1 45 R = nI c' := fun y => by rw [w_si_r (by decide), w_si_s]
  have eX : ∀ y : Int32, ∀ x, x = 43 ∨ x = 44 ∨ x = 46 ∨ x = 47 ∨ x = 48 → (w_si (w_si (w_si w' 0 32 0) 45 R (nI c')) 0 36 y).1 x = w'.1 x := fun y x hx => by rw [w_si_r (by omega), w_si_r (by omega), w_si_r (by omega)]
  by_cases z : w'.1 0 34 = 0
  rotate_left
  · -- a fault
    rw [if_neg z] at e2
    rw [if_neg z, on_n, m_r_si, (o5 X (by omega)).2, gA.2.1, u_ob, m_t_si, u_ck t1, m_i_sj (by decide), b2] at cl
    generalize w_si (w_si (w_si w' 0 32 0) 45 R (nI c')) 0 36 (nI R) = wz at *
    have oi : ∀ a, a < m_n h → ¬ RdL X a → m_i (m_si h5 (X + 1) 1 0) a = m_i h a ∧ m_l (m_si h5 (X + 1) 1 0) a = m_l h a := fun a ha q => ⟨by rw [m_i_sb (by unfold RdL at q; omega)]; exact ((b5 a ha).2.2 q).1, ((b5 a ha).2.2 q).2⟩
    sorry
  · sorry
end
