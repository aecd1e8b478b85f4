/-! PURE 99o: a new train. -/
section
variable {G : GG} {X t N k n j p q : Nat} {h h' h0 h1 h2 : AH}
/-- a new train, with q riders made -/
def RIn (h0 : AH) (t q : Nat) (h : AH) : Prop := m_n h = t + 7 + q ∧ Old t h0 h ∧ (m_t h t = .inl 9 ∧ m_r h t 6 = some (t + 1) ∧ m_r h t 8 = some (t + 2) ∧ m_r h t 9 = some (t + 3) ∧ m_r h t 11 = some (t + 4) ∧ m_r h t 12 = some (t + 5) ∧ m_r h t 13 = some (t + 6)) ∧ (m_t h (t + 1) = .inr (.object RX5, 8) ∧ m_t h (t + 2) = .inr (.int, 5) ∧ m_t h (t + 3) = .inr (.int, 5) ∧ m_t h (t + 4) = .inr (.int, 5) ∧ m_t h (t + 5) = .inr (.int, 5) ∧ m_t h (t + 6) = .inr (.int, 5)) ∧ (∀ i, i < q → m_r h (t + 1) i = some (t + 7 + i) ∧ m_t h (t + 7 + i) = .inl 5) ∧ ∀ a, t ≤ a → a < t + 7 + q → ∀ j, m_i h a j = 0
def rz (h : AH) (a : Nat) : AH := m_si (m_si (m_si (m_si (m_si (m_si (m_si h a 0 0) a 1 0) a 2 0) a 3 0) a 4 0) a 5 0) a 6 0
theorem rz_i (hz : ∀ j, m_i h n j = 0) (j : Nat) : m_i (rz h n) n j = 0 := by
  unfold rz
  rw [m_i_si, m_i_si, m_i_si, m_i_si, m_i_si, m_i_si, m_i_si, hz]
  simp
theorem rz_b {a : Nat} (ha : a ≠ n) : m_i (rz h n) a = m_i h a := by
  unfold rz
  rw [m_i_sb ha, m_i_sb ha, m_i_sb ha, m_i_sb ha, m_i_sb ha, m_i_sb ha, m_i_sb ha]
theorem x5_e (ht : m_t h n = .inl 5) : f_X5_init G n h = some (rz h n) := by
  unfold f_X5_init rz
  rw [u_ck ht, u_nn, u_nn, u_nn, u_nn, u_nn, u_nn, u_nn]
theorem rd_step {α : Type} (hq : q < 8) (hI : RIn h0 t q h) : ∃ h', RIn h0 t (q + 1) h' ∧ ∀ K : AH → Option α, (ob (m_r h t 6) fun b44 => nn (m_n h) fun x45 => nn (m_new h (.inl 5)) fun h46 => ob (f_X5_init G x45 h46) fun h47 => ck (m_t h47 x45 = .inl 5) <| ck (ixb h47 b44 (.object RX5) (nI q) = true) <| nn (m_sr h47 b44 (nI q).toNatClampNeg (some x45)) fun h52 => K h52) = K h' := by
  obtain ⟨a1, a2, a3, a4, a5, a6⟩ := hI
  have tn : m_t (m_new h (.inl 5)) (m_n h) = .inl 5 := t_newn
  refine ⟨m_sr (rz (m_new h (.inl 5)) (m_n h)) (t + 1) q (some (m_n h)), ⟨by show m_n h + 1 = _; omega, ?_, ?_, ?_, fun i hi => ?_, fun a h1 h2 j => ?_⟩, fun K => ?_⟩
  · intro a ha
    have b := a2 a ha
    refine ⟨?_, ?_, ?_, ?_⟩
    · show m_t (m_new h (.inl 5)) a = _; rw [t_newo (by omega)]; exact b.1
    · rw [m_r_srb (by omega)]; show m_r (m_new h (.inl 5)) a = _; rw [r_newo (by omega)]; exact b.2.1
    · show m_i (rz (m_new h (.inl 5)) (m_n h)) a = _; rw [rz_b (by omega), i_newo (by omega)]; exact b.2.2.1
    · show m_l (m_new h (.inl 5)) a = _; rw [l_newo (by omega)]; exact b.2.2.2
  · have e : m_r (m_sr (rz (m_new h (.inl 5)) (m_n h)) (t + 1) q (some (m_n h))) t = m_r h t := by rw [m_r_srb (by omega)]; show m_r (m_new h (.inl 5)) t = _; exact r_newo (by omega)
    rw [e]
    refine ⟨?_, a3.2⟩
    show m_t (m_new h (.inl 5)) t = _; rw [t_newo (by omega)]; exact a3.1
  · show m_t (m_new h (.inl 5)) (t + 1) = _ ∧ m_t (m_new h (.inl 5)) (t + 2) = _ ∧ m_t (m_new h (.inl 5)) (t + 3) = _ ∧ m_t (m_new h (.inl 5)) (t + 4) = _ ∧ m_t (m_new h (.inl 5)) (t + 5) = _ ∧ m_t (m_new h (.inl 5)) (t + 6) = _
    rw [t_newo (by omega), t_newo (by omega), t_newo (by omega), t_newo (by omega), t_newo (by omega), t_newo (by omega)]; exact a4
  · by_cases z : i = q
    · subst z
      exact ⟨by rw [m_r_srs, a1], by show m_t (m_new h (.inl 5)) (t + 7 + i) = _; rw [← a1]; exact tn⟩
    · have := a5 i (by omega)
      refine ⟨?_, ?_⟩
      · rw [m_r_srj z]; show m_r (m_new h (.inl 5)) (t + 1) i = _; rw [r_newo (by omega)]; exact this.1
      · show m_t (m_new h (.inl 5)) (t + 7 + i) = _; rw [t_newo (by omega)]; exact this.2
  · show m_i (rz (m_new h (.inl 5)) (m_n h)) a j = 0
    by_cases z : a = m_n h
    · rw [z]; exact rz_i (fun j => by rw [i_new, if_pos rfl]) j
    · rw [rz_b z, i_newo (by omega)]; exact a6 a h1 (by omega) j
  · rw [a3.2.1, u_ob, u_nn, u_nn, x5_e tn, u_ob, u_ck (show m_t (rz (m_new h (.inl 5)) (m_n h)) (m_n h) = .inl 5 from tn), u_ck (ixb_e (show m_t (rz (m_new h (.inl 5)) (m_n h)) (t + 1) = .inr (.object RX5, 8) by show m_t (m_new h (.inl 5)) (t + 1) = _; rw [t_newo (by omega)]; exact a4.1) hq (by decide)), u_nn, nI_clamp (by omega)]
theorem c_trinit (h : AH) : ∃ h', f_X9_init G (m_n h) (m_new h (.inl 9)) = some h' ∧ RIn h (m_n h) 8 h' := by
  let z (h : AH) (n : Nat) (a : Nat) : AH := m_si h n a 0
  let g0 := m_new h (.inl 9)
  let g1 := m_si (m_si (m_si (m_si (m_si (m_si g0 (m_n h) 0 0) (m_n h) 1 0) (m_n h) 2 0) (m_n h) 3 0) (m_n h) 4 0) (m_n h) 5 0
  let g2 := m_si (m_sr (m_new g1 (.inr ((.object RX5), 8))) (m_n h) 6 (some (m_n h + 1))) (m_n h) 7 0
  let g3 := m_sr (m_new g2 (.inr (.int, 5))) (m_n h) 8 (some (m_n h + 2))
  let g4 := m_si (m_sr (m_new g3 (.inr (.int, 5))) (m_n h) 9 (some (m_n h + 3))) (m_n h) 10 0
  let g5 := m_sr (m_new g4 (.inr (.int, 5))) (m_n h) 11 (some (m_n h + 4))
  let g6 := m_sr (m_new g5 (.inr (.int, 5))) (m_n h) 12 (some (m_n h + 5))
  let g7 := m_sr (m_new g6 (.inr (.int, 5))) (m_n h) 13 (some (m_n h + 6))
  have n1 : m_n g1 = m_n h + 1 := rfl
  have n2 : m_n g2 = m_n h + 2 := rfl
  have n3 : m_n g3 = m_n h + 3 := rfl
  have n4 : m_n g4 = m_n h + 4 := rfl
  have n5 : m_n g5 = m_n h + 5 := rfl
  have n6 : m_n g6 = m_n h + 6 := rfl
  have n7 : m_n g7 = m_n h + 7 := rfl
  have t1 : m_t g1 (m_n h) = .inl 9 := t_newn
  have t2 : m_t g2 (m_n h) = .inl 9 := (t_newo (by rw [n1]; omega)).trans t1
  have t3 : m_t g3 (m_n h) = .inl 9 := (t_newo (by rw [n2]; omega)).trans t2
  have t4 : m_t g4 (m_n h) = .inl 9 := (t_newo (by rw [n3]; omega)).trans t3
  have t5 : m_t g5 (m_n h) = .inl 9 := (t_newo (by rw [n4]; omega)).trans t4
  have t6 : m_t g6 (m_n h) = .inl 9 := (t_newo (by rw [n5]; omega)).trans t5
  have t7 : m_t g7 (m_n h) = .inl 9 := (t_newo (by rw [n6]; omega)).trans t6
  have o1 : Old (m_n h) h g1 := ((((((Old.new (Nat.le_refl _)).tr (Old.si (Nat.le_refl _))).tr (Old.si (Nat.le_refl _))).tr (Old.si (Nat.le_refl _))).tr (Old.si (Nat.le_refl _))).tr (Old.si (Nat.le_refl _))).tr (Old.si (Nat.le_refl _))
  have o2 : Old (m_n h) g1 g2 := ((Old.new (by rw [n1]; omega)).tr (Old.sr (Nat.le_refl _))).tr (Old.si (Nat.le_refl _))
  have o3 : Old (m_n h) g2 g3 := (Old.new (by rw [n2]; omega)).tr (Old.sr (Nat.le_refl _))
  have o4 : Old (m_n h) g3 g4 := ((Old.new (by rw [n3]; omega)).tr (Old.sr (Nat.le_refl _))).tr (Old.si (Nat.le_refl _))
  have o5 : Old (m_n h) g4 g5 := (Old.new (by rw [n4]; omega)).tr (Old.sr (Nat.le_refl _))
  have o6 : Old (m_n h) g5 g6 := (Old.new (by rw [n5]; omega)).tr (Old.sr (Nat.le_refl _))
  have o7 : Old (m_n h) g6 g7 := (Old.new (by rw [n6]; omega)).tr (Old.sr (Nat.le_refl _))
  have i1 : ∀ a, m_n h ≤ a → a < m_n h + 1 → ∀ j, m_i g1 a j = 0 := fun a q1 q2 j => by
    have : a = m_n h := by omega
    subst this
    show m_i (m_si (m_si (m_si (m_si (m_si (m_si g0 (m_n h) 0 0) (m_n h) 1 0) (m_n h) 2 0) (m_n h) 3 0) (m_n h) 4 0) (m_n h) 5 0) (m_n h) j = 0
    rw [m_i_si, m_i_si, m_i_si, m_i_si, m_i_si, m_i_si, show m_i g0 (m_n h) j = 0 by show m_i (m_new h (.inl 9)) (m_n h) j = 0; rw [i_new, if_pos rfl]]
    simp
  have nw : ∀ (g : AH) (x : Nat ⊕ (FieldType × Nat)) (m : Nat), m_n g = m_n h + m → (∀ a, m_n h ≤ a → a < m_n h + m → ∀ j, m_i g a j = 0) → ∀ a, m_n h ≤ a → a < m_n h + m + 1 → ∀ j, m_i (m_new g x) a j = 0 := fun g x m e hz a q1 q2 j => by
    rw [i_new]
    by_cases y : a = m_n g
    · rw [if_pos y]
    · rw [if_neg y]; exact hz a q1 (by omega) j
  have sz : ∀ (g : AH) (m b : Nat), (∀ a, m_n h ≤ a → a < m_n h + m → ∀ j, m_i g a j = 0) → ∀ a, m_n h ≤ a → a < m_n h + m → ∀ j, m_i (m_si g (m_n h) b 0) a j = 0 := fun g m b hz a q1 q2 j => by
    rw [m_i_si]; split
    · rfl
    · exact hz a q1 q2 j
  have i2 : ∀ a, m_n h ≤ a → a < m_n h + 2 → ∀ j, m_i g2 a j = 0 := sz (m_sr (m_new g1 (.inr ((.object RX5), 8))) (m_n h) 6 (some (m_n h + 1))) 2 7 (nw g1 (.inr ((.object RX5), 8)) 1 n1 i1)
  have i3 : ∀ a, m_n h ≤ a → a < m_n h + 3 → ∀ j, m_i g3 a j = 0 := nw g2 (.inr (.int, 5)) 2 n2 i2
  have i4 : ∀ a, m_n h ≤ a → a < m_n h + 4 → ∀ j, m_i g4 a j = 0 := sz (m_sr (m_new g3 (.inr (.int, 5))) (m_n h) 9 (some (m_n h + 3))) 4 10 (nw g3 (.inr (.int, 5)) 3 n3 i3)
  have i5 : ∀ a, m_n h ≤ a → a < m_n h + 5 → ∀ j, m_i g5 a j = 0 := nw g4 (.inr (.int, 5)) 4 n4 i4
  have i6 : ∀ a, m_n h ≤ a → a < m_n h + 6 → ∀ j, m_i g6 a j = 0 := nw g5 (.inr (.int, 5)) 5 n5 i5
  have i7 : ∀ a, m_n h ≤ a → a < m_n h + 7 → ∀ j, m_i g7 a j = 0 := nw g6 (.inr (.int, 5)) 6 n6 i6
  have r2 : m_r g2 (m_n h) 6 = some (m_n h + 1) := m_r_srs _ _ _ _
  have rn : ∀ (g : AH) (x : Nat ⊕ (FieldType × Nat)) (b c : Nat) (v : Option Nat), m_n h < m_n g → c ≠ b → m_r (m_sr (m_new g x) (m_n h) b v) (m_n h) c = m_r g (m_n h) c := fun g x b c v q1 q2 => by rw [m_r_srj q2, r_newo q1]
  have r7 : m_r g7 (m_n h) 6 = some (m_n h + 1) ∧ m_r g7 (m_n h) 8 = some (m_n h + 2) ∧ m_r g7 (m_n h) 9 = some (m_n h + 3) ∧ m_r g7 (m_n h) 11 = some (m_n h + 4) ∧ m_r g7 (m_n h) 12 = some (m_n h + 5) ∧ m_r g7 (m_n h) 13 = some (m_n h + 6) := by
    have a3 : ∀ c, c ≠ 8 → m_r g3 (m_n h) c = m_r g2 (m_n h) c := fun c hc => rn g2 _ _ c _ (by omega) hc
    have a4 : ∀ c, c ≠ 9 → m_r g4 (m_n h) c = m_r g3 (m_n h) c := fun c hc => rn g3 _ _ c _ (by omega) hc
    have a5 : ∀ c, c ≠ 11 → m_r g5 (m_n h) c = m_r g4 (m_n h) c := fun c hc => rn g4 _ _ c _ (by omega) hc
    have a6 : ∀ c, c ≠ 12 → m_r g6 (m_n h) c = m_r g5 (m_n h) c := fun c hc => rn g5 _ _ c _ (by omega) hc
    have a7 : ∀ c, c ≠ 13 → m_r g7 (m_n h) c = m_r g6 (m_n h) c := fun c hc => rn g6 _ _ c _ (by omega) hc
    have b3 : m_r g3 (m_n h) 8 = some (m_n h + 2) := m_r_srs _ _ _ _
    have b4 : m_r g4 (m_n h) 9 = some (m_n h + 3) := m_r_srs _ _ _ _
    have b5 : m_r g5 (m_n h) 11 = some (m_n h + 4) := m_r_srs _ _ _ _
    have b6 : m_r g6 (m_n h) 12 = some (m_n h + 5) := m_r_srs _ _ _ _
    have b7 : m_r g7 (m_n h) 13 = some (m_n h + 6) := m_r_srs _ _ _ _
    refine ⟨?_, ?_, ?_, ?_, ?_, b7⟩
    · rw [a7 6 (by decide), a6 6 (by decide), a5 6 (by decide), a4 6 (by decide), a3 6 (by decide)]; exact r2
    · rw [a7 8 (by decide), a6 8 (by decide), a5 8 (by decide), a4 8 (by decide)]; exact b3
    · rw [a7 9 (by decide), a6 9 (by decide), a5 9 (by decide)]; exact b4
    · rw [a7 11 (by decide), a6 11 (by decide)]; exact b5
    · rw [a7 12 (by decide)]; exact b6
  have tt : m_t g7 (m_n h + 1) = .inr (.object RX5, 8) ∧ m_t g7 (m_n h + 2) = .inr (.int, 5) ∧ m_t g7 (m_n h + 3) = .inr (.int, 5) ∧ m_t g7 (m_n h + 4) = .inr (.int, 5) ∧ m_t g7 (m_n h + 5) = .inr (.int, 5) ∧ m_t g7 (m_n h + 6) = .inr (.int, 5) := by
    have c3 : ∀ a, a < m_n g2 → m_t g3 a = m_t g2 a := fun a ha => t_newo (h := g2) ha
    have c4 : ∀ a, a < m_n g3 → m_t g4 a = m_t g3 a := fun a ha => t_newo (h := g3) ha
    have c5 : ∀ a, a < m_n g4 → m_t g5 a = m_t g4 a := fun a ha => t_newo (h := g4) ha
    have c6 : ∀ a, a < m_n g5 → m_t g6 a = m_t g5 a := fun a ha => t_newo (h := g5) ha
    have c7 : ∀ a, a < m_n g6 → m_t g7 a = m_t g6 a := fun a ha => t_newo (h := g6) ha
    have d2 : m_t g2 (m_n h + 1) = .inr (.object RX5, 8) := t_newn (h := g1)
    have d3 : m_t g3 (m_n h + 2) = .inr (.int, 5) := t_newn (h := g2)
    have d4 : m_t g4 (m_n h + 3) = .inr (.int, 5) := t_newn (h := g3)
    have d5 : m_t g5 (m_n h + 4) = .inr (.int, 5) := t_newn (h := g4)
    have d6 : m_t g6 (m_n h + 5) = .inr (.int, 5) := t_newn (h := g5)
    have d7 : m_t g7 (m_n h + 6) = .inr (.int, 5) := t_newn (h := g6)
    refine ⟨?_, ?_, ?_, ?_, ?_, d7⟩
    · rw [c7 _ (by omega), c6 _ (by omega), c5 _ (by omega), c4 _ (by omega), c3 _ (by omega)]; exact d2
    · rw [c7 _ (by omega), c6 _ (by omega), c5 _ (by omega), c4 _ (by omega)]; exact d3
    · rw [c7 _ (by omega), c6 _ (by omega), c5 _ (by omega)]; exact d4
    · rw [c7 _ (by omega), c6 _ (by omega)]; exact d5
    · rw [c7 _ (by omega)]; exact d6
  have I0 : RIn h (m_n h) 0 g7 := ⟨n7, (((((o1.tr o2).tr o3).tr o4).tr o5).tr o6).tr o7, ⟨t7, r7⟩, tt, fun i hi => by omega, i7⟩
  obtain ⟨k0, I1, e0⟩ := rd_step (α := AH) (G := G) (q := 0) (by decide) I0
  obtain ⟨k1, I2, e1⟩ := rd_step (α := AH) (G := G) (q := 1) (by decide) I1
  obtain ⟨k2, I3, e2⟩ := rd_step (α := AH) (G := G) (q := 2) (by decide) I2
  obtain ⟨k3, I4, e3⟩ := rd_step (α := AH) (G := G) (q := 3) (by decide) I3
  obtain ⟨k4, I5, e4⟩ := rd_step (α := AH) (G := G) (q := 4) (by decide) I4
  obtain ⟨k5, I6, e5⟩ := rd_step (α := AH) (G := G) (q := 5) (by decide) I5
  obtain ⟨k6, I7, e6⟩ := rd_step (α := AH) (G := G) (q := 6) (by decide) I6
  obtain ⟨k7, I8, e7⟩ := rd_step (α := AH) (G := G) (q := 7) (by decide) I7
  refine ⟨k7, ?_, I8⟩
  have T : ∀ {a : AH} {q : Nat}, RIn h (m_n h) q a → m_t a (m_n h) = .inl 9 := fun q => q.2.2.1.1
  unfold f_X9_init
  rw [u_ck (show m_t (m_new h (.inl 9)) (m_n h) = .inl 9 from t_newn), u_nn, u_nn, u_nn, u_nn, u_nn, u_nn, u_nn, u_nn]
  refine Eq.trans (u_ck (show m_t (m_new g1 (.inr ((.object RX5), 8))) (m_n h) = .inl 9 from (t_newo (by rw [n1]; omega)).trans t1)) ?_
  rw [u_nn, u_nn, u_nn, u_nn]
  refine Eq.trans (u_ck (show m_t (m_new g2 (.inr (.int, 5))) (m_n h) = .inl 9 from (t_newo (by rw [n2]; omega)).trans t2)) ?_
  rw [u_nn, u_nn, u_nn]
  refine Eq.trans (u_ck (show m_t (m_new g3 (.inr (.int, 5))) (m_n h) = .inl 9 from (t_newo (by rw [n3]; omega)).trans t3)) ?_
  rw [u_nn, u_nn, u_nn, u_nn]
  refine Eq.trans (u_ck (show m_t (m_new g4 (.inr (.int, 5))) (m_n h) = .inl 9 from (t_newo (by rw [n4]; omega)).trans t4)) ?_
  rw [u_nn, u_nn, u_nn]
  refine Eq.trans (u_ck (show m_t (m_new g5 (.inr (.int, 5))) (m_n h) = .inl 9 from (t_newo (by rw [n5]; omega)).trans t5)) ?_
  rw [u_nn, u_nn, u_nn]
  refine Eq.trans (u_ck (show m_t (m_new g6 (.inr (.int, 5))) (m_n h) = .inl 9 from (t_newo (by rw [n6]; omega)).trans t6)) ?_
  rw [u_nn]
  refine Eq.trans (e0 _) ?_
  refine Eq.trans (u_ck (T I1)) ?_
  refine Eq.trans (e1 _) ?_
  refine Eq.trans (u_ck (T I2)) ?_
  refine Eq.trans (e2 _) ?_
  refine Eq.trans (u_ck (T I3)) ?_
  refine Eq.trans (e3 _) ?_
  refine Eq.trans (u_ck (T I4)) ?_
  refine Eq.trans (e4 _) ?_
  refine Eq.trans (u_ck (T I5)) ?_
  refine Eq.trans (e5 _) ?_
  refine Eq.trans (u_ck (T I6)) ?_
  refine Eq.trans (e6 _) ?_
  refine Eq.trans (u_ck (T I7)) ?_
  refine Eq.trans (e7 _) ?_
  rfl
theorem RIn.trs (hI : RIn h0 t 8 h) : TrS h t := ⟨hI.2.2.1.1, hI.2.2.1.2.1, hI.2.2.1.2.2.1, hI.2.2.1.2.2.2.1, hI.2.2.1.2.2.2.2.1, hI.2.2.1.2.2.2.2.2.1, hI.2.2.1.2.2.2.2.2.2, hI.2.2.2.1.1, hI.2.2.2.1.2, hI.2.2.2.2.1⟩
end
