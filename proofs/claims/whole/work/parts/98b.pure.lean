/-! PURE 98b: a scene is copied; back. -/
section
variable {G : GG} {own own' : Nat → Nat} {R X c t U : Nat} {h h1 h' : AH} {w w2 : MS} {v v' v0 : VV} {Ex : Nat → Prop}
theorem cpy10 (f g : Nat → Int32) {j : Nat} (hj : j < 10) : va_cpy f g 0 0 10 j = f j := by
  unfold va_cpy; rw [if_pos (by omega), Nat.zero_add, Nat.sub_zero]
theorem c_scopy {s a5 a6 s' b5 b6 : Nat} (hS : ScS h s a5 a6) (hS' : ScS h s' b5 b6) (hc : m_r h s 0 = some c) (d1 : s ≠ s') (d2 : b5 ≠ a6) (d3 : a5 ≠ s' ∧ a6 ≠ s' ∧ b5 ≠ s' ∧ b6 ≠ s') (d4 : b5 ≠ b6) : ∃ h', f_X6_copyFrom G s' s h = some h' ∧ m_t h' = m_t h ∧ m_n h' = m_n h ∧ m_l h' = m_l h ∧ (∀ a, a ≠ s' → m_r h' a = m_r h a) ∧ (∀ k, 0 < k → m_r h' s' k = m_r h s' k) ∧ m_r h' s' 0 = some c ∧ (∀ a, a ≠ s' → a ≠ b5 → a ≠ b6 → m_i h' a = m_i h a) ∧ (∀ k, 1 ≤ k → k ≤ 4 → m_i h' s' k = m_i h s k) ∧ ∀ k, k < 10 → m_i h' b5 k = m_i h a5 k ∧ m_i h' b6 k = m_i h a6 k := by
  obtain ⟨s1, s2, s3, s4, s5⟩ := hS
  obtain ⟨t1, t2, t3, t4, t5⟩ := hS'
  let ha := m_sr h s' 0 (some c)
  let hb := m_si (m_si (m_si (m_si ha s' 1 (m_i h s 1)) s' 2 (m_i h s 2)) s' 3 (m_i h s 3)) s' 4 (m_i h s 4)
  let h1 := m_sa hb b5 (va_cpy (m_i hb a5) (m_i hb b5) 0 0 10)
  let h2 := m_sa h1 b6 (va_cpy (m_i h1 a6) (m_i h1 b6) 0 0 10)
  have rb : ∀ a, a ≠ s' → m_r hb a = m_r h a := fun a q => by
    show m_r (m_sr h s' 0 _) a = _
    rw [m_r_srb q]
  have rk : ∀ k, 0 < k → m_r hb s' k = m_r h s' k := fun k q => by
    show m_r (m_sr h s' 0 _) s' k = _
    rw [m_r_srj (by omega)]
  have ib : ∀ a, a ≠ s' → m_i hb a = m_i h a := fun a q => by
    show m_i (m_si (m_si (m_si (m_si ha s' 1 _) s' 2 _) s' 3 _) s' 4 _) a = _
    rw [m_i_sb q, m_i_sb q, m_i_sb q, m_i_sb q]; rfl
  have i2 : ∀ a, a ≠ b5 → a ≠ b6 → m_i h2 a = m_i hb a := fun a q1 q2 => by
    show m_i (m_sa (m_sa hb b5 _) b6 _) a = _
    rw [m_i_sa, if_neg q2, m_i_sa, if_neg q1]
  refine ⟨h2, ?_, rfl, rfl, rfl, rb, rk, m_r_srs _ _ _ _, fun a q1 q2 q3 => by rw [i2 a q2 q3, ib a q1], fun k q1 q2 => ?_, fun k hk => ⟨?_, ?_⟩⟩
  · unfold f_X6_copyFrom
    rw [u_ck s1, hc, u_ob, u_ck t1, u_nn, u_nn, u_nn, u_nn, u_nn]
    simp only [m_i_sr, m_i_sb d1]
    have al : ∀ (H : AH) (a : Nat), m_t H = m_t h → m_t h a = .inr (.int, 10) → alb H a .int = some 10 := fun H a e q => alb_e (by rw [e]; exact q)
    have cond : (¬ (0 : Int32) < 0 ∧ ¬ (0 : Int32) < 0 ∧ ¬ (10 : Int32) < 0 ∧ (0 : Int32).toNatClampNeg + (10 : Int32).toNatClampNeg ≤ 10 ∧ (0 : Int32).toNatClampNeg + (10 : Int32).toNatClampNeg ≤ 10) := by decide
    show ob (m_r hb s 5) _ = _
    rw [rb s d1, s2, u_ob]
    show ob (m_r hb s' 5) _ = _
    rw [rk 5 (by decide), t2, u_ob, al _ _ (by rfl) s4, u_ob, al _ _ (by rfl) t4, u_ob, u_ck cond, u_nn]
    show ob (m_r hb s 6) _ = _
    rw [rb s d1, s3, u_ob]
    show ob (m_r hb s' 6) _ = _
    rw [rk 6 (by decide), t3, u_ob, al _ _ (by rfl) s5, u_ob, al _ _ (by rfl) t5, u_ob, u_ck cond, u_nn]
    rfl
  · rw [i2 s' (Ne.symm d3.2.2.1) (Ne.symm d3.2.2.2)]
    show m_i (m_si (m_si (m_si (m_si ha s' 1 _) s' 2 _) s' 3 _) s' 4 _) s' k = _
    have q : k = 1 ∨ k = 2 ∨ k = 3 ∨ k = 4 := by omega
    rcases q with rfl | rfl | rfl | rfl
    · rw [m_i_sj (by decide), m_i_sj (by decide), m_i_sj (by decide), m_i_ss]
    · rw [m_i_sj (by decide), m_i_sj (by decide), m_i_ss]
    · rw [m_i_sj (by decide), m_i_ss]
    · rw [m_i_ss]
  · show m_i (m_sa (m_sa hb b5 _) b6 _) b5 k = _
    rw [m_i_sa, if_neg d4, m_i_sa, if_pos rfl, cpy10 _ _ hk, ib a5 d3.1]
  · show m_i (m_sa h1 b6 _) b6 k = _
    rw [m_i_sa, if_pos rfl, cpy10 _ _ hk]
    show m_i (m_sa hb b5 _) a6 k = _
    rw [m_i_sa, if_neg (Ne.symm d2), ib a6 d3.2.1]
theorem ScR.cp {s a5 a6 s' b5 b6 : Nat} (hS : ScR own R h X s a5 a6 v U) (hL : LwR own R h X v0) (hE : ExO own h Ex) (hF : FrD X R Ex h h1) (hX : FrX X h h1) (ho : ∀ a, a < m_n h → own' a = own a) (hs' : ScS h1 s' b5 b6) (r0 : m_r h1 s' 0 = m_r h s 0) (i : ∀ k, 1 ≤ k → k ≤ 4 → m_i h1 s' k = m_i h s k) (i5 : ∀ k, k < 10 → m_i h1 b5 k = m_i h a5 k ∧ m_i h1 b6 k = m_i h a6 k) : ScR own' R h1 X s' b5 b6 v U := by
  obtain ⟨c, t, s1, s2, s3, s4, s5, s6, s7, s8⟩ := hS
  refine ⟨c, t, hs', by rw [r0]; exact s2, s3.frd (st_N8 s4.1) hL hE hF hX ho, s4, ?_, ?_, s7, s8.frd hL hE hF ho ?_⟩
  · unfold ScV at s5 ⊢; rw [i 1 (by decide) (by decide), i 2 (by decide) (by decide), i 3 (by decide) (by decide)]; exact s5
  · obtain ⟨g, g1, g2, g3, g4⟩ := s6
    refine ⟨g, g1, g2, by rw [i 4 (by decide) (by decide)]; exact g3, fun k hk => ?_⟩
    rw [(i5 k (by omega)).1, (i5 k (by omega)).2]; exact g4 k hk
  · rcases s3 with ⟨a, b, d⟩ | ⟨a, b, d, e⟩
    · exact Or.inr ⟨d, cab_t b⟩
    · exact Or.inl (s7 a)
theorem rng_4 {α : Type} {x : Int32} {a b : α} : (if x < 0 then a else if 4 ≤ x then a else b) = if 0 ≤ x ∧ x ≤ 3 then b else a := rng_le (by rfl)
theorem call_back (x : Int32) : Call X (f_X11_back G X x) (p_X12_back G x) := by
  intro h w ⟨own, R, hR⟩
  obtain ⟨U, c, t, hc⟩ := hR.cur
  have hB := hc.1
  have pin3 : ∀ w : MS, p_X12_in G x.toInt64 (0 : Int64) (3 : Int64) w = some (if 0 ≤ x ∧ x ≤ 3 then 1 else 0, w) := fun w => p_in_i G x 0 3 w
  unfold f_X11_back p_X12_back
  rw [pin3, u_cw, rng_4]
  by_cases h1 : 0 ≤ x ∧ x ≤ 3
  rotate_left
  · rw [if_neg h1, if_neg h1, if_pos rfl]; exact stay hR _
  obtain ⟨k, rfl, hk1, hk2⟩ := nat_of (x := x) (L := 3) h1
  have hk : k < 4 := by have i3 : (3 : Int32).toInt = 3 := rfl; omega
  have g33 := hR.1.2.2.1.2.1
  have g6 : m_r h X 6 = some (X + 33) := hR.1.1.2.2.2.2.2.2.1
  rw [if_pos h1, if_pos h1, if_neg n10, u_ck hB.1.1, g6, u_ob, u_ck (ixb_e g33 hk (by decide)), u_ck (u_ixn hk (by decide)), nI_clamp (by omega)]
  rcases hR.2.2.2.2.2 k hk with ⟨a1, a2⟩ | ⟨a1, s, U2, a2, a3, a4, a5, a6, a7⟩
  · rw [a2, on_n, if_pos a1]; exact stay hR _
  rw [a2, on_s, if_neg (by rw [a1]; decide), hB.1.2.1, u_ob, u_ob, u_ck (ixb_e g33 hk (by decide)), a2, u_ob, u_ck hB.1.2.2.1]
  obtain ⟨w', f1, f2, f3, f4, f5, f6, f7⟩ := p_lays (G := G) (w := w) hk
  have a7' := a7
  obtain ⟨c2, t2, s1, s2, s3, s4, s5, s6, s7, s8⟩ := a7
  have hss : ScS h (X + 10) (X + 31) (X + 32) := hc.2.2.2.2.2.2.2.2
  obtain ⟨h', b1, b2, b3, b4, b5, b6, b7, b8, b9, b10⟩ := c_scopy (G := G) s1 hss s2 (by omega) (by omega) (by omega) (by omega)
  have l := hR.2.2.2.1
  have hnE : ExO own h (fun _ => False) := fun _ q => q.elim
  have hD : FrD X R (fun _ => False) h h' := ⟨by rw [b3]; exact Nat.le_refl _, fun a q1 q2 => ⟨by rw [b2], fun _ => ⟨b5 a (by omega), fun _ => b8 a (by omega) (by omega) (by omega)⟩⟩⟩
  have hX : FrX X h h' := ⟨fun a _ _ => by rw [b2], fun a _ _ _ q _ _ => b5 a q, b6, fun k _ => by rw [b5 (X + 34) (by omega)], fun a q1 q2 => b8 a (by omega) (by omega) (by omega), fun a q1 q2 => ⟨by rw [b2], b5 a (by omega), b8 a (by omega) (by omega) (by omega), by rw [b4]⟩⟩
  have hss' : ScS h' (X + 10) (X + 31) (X + 32) := by
    unfold ScS at hss ⊢
    rw [b2, b6 5 (by decide), b6 6 (by decide)]; exact hss
  have hS2 := (a7'.cp (own' := own) l hnE hD hX (fun _ _ => rfl) hss' (b7.trans s2.symm) b9 b10).pw f6 f7
  have hO := hR.put (h1 := h') (w2 := w') b3 b2 b5 b6 b8 b4 (f3 32 (by decide) (by decide) (by decide)) (f3 36 (by decide) (by decide) (by decide)) (f3 41 (by decide) (by decide) (by decide)) (fun r q1 q2 => f2 r (by omega) (by omega) (by unfold RwL; omega)) (f2 81 (by decide) (by decide) (by unfold RwL; omega)) (f2 82 (by decide) (by decide) (by unfold RwL; omega)) ⟨U2, by rw [f4, ← a6]; rfl, hS2⟩
  obtain ⟨U', c', t', hc'⟩ := hO.1.cur
  have hB' := hc'.1
  rw [b1, u_ob, u_ck hB'.1.1, hB'.1.2.1, u_ob, u_ck hB'.1.2.2.1, hB'.1.2.2.2.1, u_ob, u_ck hB'.1.2.2.2.2.1, hB'.2.2.2.2.1, f1, u_ob, u_ck ix_17_10, tn_10]
  exact ⟨_, _, _, rfl, rfl, ⟨own, R, hO.1⟩, hO.2⟩
end
