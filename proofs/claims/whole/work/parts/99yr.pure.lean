/-! PURE 99yr: a new law of the class. -/
section
variable {G : GG} {X W : Nat} {h : AH}
theorem c_law (hI : RI h (X + 1)) (hW : m_i h (X + 7) 2 = nI W) (hW4 : W < 400) (hX : X + 122 ≤ m_n h) : ∃ h', (nn (m_n h) fun x52 => nn (m_new h (.inl 2)) fun h53 => ck (m_t h53 (X + 7) = .inl 3) <| ob (m_r h53 (X + 7) 1) fun b55 => cb (f_J7_copyOf_59c91 G b55 (m_i h53 (X + 7) 2) h53) fun r58 h56 => ob (f_X2_init G x52 r58 h56) fun h59 => some (some x52, h59)) = some (some (m_n h), h') ∧ m_n h' = m_n h + 4 ∧ Old (m_n h) h h' ∧ LaS h' (m_n h) ∧ m_t h' (m_n h + 1) = .inr (.int, W) ∧ ∀ i, i < W → m_i h' (m_n h + 1) i = m_i h (X + 8) i := by
  obtain ⟨p1, p2, p3, p4, p5⟩ := rd7 hI
  let h1 := m_new h (.inl 2)
  let g1 := m_new h1 (.inr (.int, W))
  let h2 := m_sa g1 (m_n h + 1) (va_cpy (m_i g1 (X + 8)) (m_i g1 (m_n h + 1)) 0 0 W)
  let g2 := m_new h2 (.inr (.long, 64))
  let h3 := m_si (m_sr g2 (m_n h) 1 (some (m_n h + 2))) (m_n h) 2 0
  let g3 := m_new h3 (.inr (.int, 6))
  let h4 := m_sr (m_si (m_si (m_si (m_sr g3 (m_n h) 3 (some (m_n h + 3))) (m_n h) 4 0) (m_n h) 5 (-1)) (m_n h) 6 0) (m_n h) 0 (some (m_n h + 1))
  have n1 : m_n h1 = m_n h + 1 := rfl
  have n2 : m_n h2 = m_n h + 2 := rfl
  have n3 : m_n h3 = m_n h + 3 := rfl
  have t1 : m_t h1 (m_n h) = .inl 2 := t_newn
  have t1' : m_t g1 (m_n h) = .inl 2 := (t_newo (by rw [n1]; omega)).trans t1
  have t2 : m_t g2 (m_n h) = .inl 2 := (t_newo (by rw [n2]; omega)).trans t1'
  have t3 : m_t g3 (m_n h) = .inl 2 := (t_newo (by rw [n3]; omega)).trans t2
  have a1 : m_t g1 (m_n h + 1) = .inr (.int, W) := t_newn (h := h1)
  have a2 : m_t g2 (m_n h + 1) = .inr (.int, W) := (t_newo (by rw [n2]; omega)).trans a1
  have a3 : m_t g3 (m_n h + 1) = .inr (.int, W) := (t_newo (by rw [n3]; omega)).trans a2
  have b2 : m_t g2 (m_n h + 2) = .inr (.long, 64) := t_newn (h := h2)
  have b3 : m_t g3 (m_n h + 2) = .inr (.long, 64) := (t_newo (by rw [n3]; omega)).trans b2
  have c3 : m_t g3 (m_n h + 3) = .inr (.int, 6) := t_newn (h := h3)
  have t7 : m_t h1 (X + 7) = .inl 3 := (t_newo (by omega)).trans p1
  have r7 : m_r h1 (X + 7) 1 = some (X + 8) := by rw [r_newo (by omega)]; exact p4
  have i7 : m_i h1 (X + 7) 2 = nI W := by rw [i_newo (by omega)]; exact hW
  have t8 : m_t h1 (X + 8) = .inr (.int, 400) := (t_newo (by omega)).trans p5
  have t8' : m_t g1 (X + 8) = .inr (.int, 400) := (t_newo (by rw [n1]; omega)).trans t8
  have cp : f_J7_copyOf_59c91 G (X + 8) (nI W) h1 = some (m_n h + 1, h2) := by
    unfold f_J7_copyOf_59c91
    rw [alb_e t8, u_ob, nI_clamp (by omega), u_ck ⟨nI_nlt (b := 0) (Nat.zero_le _) (by omega), hW4, by omega, by decide, alb_e t8'⟩]
    rfl
  have ini : f_X2_init G (m_n h) (m_n h + 1) h2 = some h4 := by
    unfold f_X2_init
    rw [u_nn, u_nn]
    refine Eq.trans (u_ck (show m_t g2 (m_n h) = .inl 2 from t2)) ?_
    rw [u_nn, u_nn, u_nn, u_nn]
    refine Eq.trans (u_ck (show m_t g3 (m_n h) = .inl 2 from t3)) ?_
    rfl
  refine ⟨h4, ?_, rfl, ?_, ⟨t3, ?_, ?_, ?_, b3, c3, W, by omega, a3⟩, a3, fun i hi => ?_⟩
  · rw [u_nn, u_nn]
    refine Eq.trans (u_ck (show m_t h1 (X + 7) = .inl 3 from t7)) ?_
    rw [show m_r (m_new h (.inl 2)) (X + 7) 1 = some (X + 8) from r7, u_ob, show m_i (m_new h (.inl 2)) (X + 7) 2 = nI W from i7, show f_J7_copyOf_59c91 G (X + 8) (nI W) (m_new h (.inl 2)) = some (m_n h + 1, h2) from cp, u_cb, ini, u_ob]
  · have o1 : Old (m_n h) h g1 := (Old.new (Nat.le_refl _)).tr (Old.new (by rw [n1]; omega))
    have o2 : Old (m_n h) g1 h2 := Old.sa (by omega)
    have o3 : Old (m_n h) h2 h3 := ((Old.new (by rw [n2]; omega)).tr (Old.sr (Nat.le_refl _))).tr (Old.si (Nat.le_refl _))
    have o4 : Old (m_n h) h3 h4 := (((((Old.new (by rw [n3]; omega)).tr (Old.sr (Nat.le_refl _))).tr (Old.si (Nat.le_refl _))).tr (Old.si (Nat.le_refl _))).tr (Old.si (Nat.le_refl _))).tr (Old.sr (Nat.le_refl _))
    exact ((o1.tr o2).tr o3).tr o4
  · exact m_r_srs _ _ _ _
  · show m_r (m_sr (m_si (m_si (m_si (m_sr g3 (m_n h) 3 _) (m_n h) 4 0) (m_n h) 5 (-1)) (m_n h) 6 0) (m_n h) 0 _) (m_n h) 1 = _
    rw [m_r_srj (by decide), m_r_si, m_r_si, m_r_si, m_r_srj (by decide)]
    show m_r g3 (m_n h) 1 = _
    rw [r_newo (by rw [n3]; omega)]
    show m_r (m_sr g2 (m_n h) 1 _) (m_n h) 1 = _
    exact m_r_srs _ _ _ _
  · show m_r (m_sr (m_si (m_si (m_si (m_sr g3 (m_n h) 3 _) (m_n h) 4 0) (m_n h) 5 (-1)) (m_n h) 6 0) (m_n h) 0 _) (m_n h) 3 = _
    rw [m_r_srj (by decide), m_r_si, m_r_si, m_r_si]
    exact m_r_srs _ _ _ _
  · show m_i (m_sr (m_si (m_si (m_si (m_sr g3 (m_n h) 3 _) (m_n h) 4 0) (m_n h) 5 (-1)) (m_n h) 6 0) (m_n h) 0 _) (m_n h + 1) i = _
    rw [m_i_sr, m_i_sb (by omega), m_i_sb (by omega), m_i_sb (by omega), m_i_sr]
    show m_i g3 (m_n h + 1) i = _
    rw [i_newo (by rw [n3]; omega)]
    show m_i (m_si (m_sr g2 (m_n h) 1 _) (m_n h) 2 0) (m_n h + 1) i = _
    rw [m_i_sb (by omega), m_i_sr]
    show m_i g2 (m_n h + 1) i = _
    rw [i_newo (by rw [n2]; omega)]
    show m_i (m_sa g1 (m_n h + 1) _) (m_n h + 1) i = _
    rw [m_i_sa, if_pos rfl]
    unfold va_cpy
    rw [if_pos (by omega), Nat.zero_add, Nat.sub_zero]
    show m_i (m_new h1 _) (X + 8) i = _
    rw [i_newo (by rw [n1]; omega), i_newo (by omega)]
end
