/-! PURE 98d: image. -/
section
variable {G : GG} {own own' : Nat → Nat} {R X c t U : Nat} {h h1 h' : AH} {w w2 : MS} {v v' v0 : VV} {Ex : Nat → Prop}
theorem RelO.im (hR : RelO own R h X w) {k s : Nat} (hk : k < 4) (hE : ExO own h Ex) (hD : FrD X R Ex h h1) (hX : FrX X h h1) (ho : ∀ a, a < m_n h → own' a = own a) (hEx : ∀ k' s', k' < 4 → k' ≠ k → m_r h (X + 33) k' = some s' → (∀ a, s' ≤ a → a < s' + 3 → own a = s') → ∀ a, s' ≤ a → a < s' + 3 → ¬ Ex a) (h9 : m_r h1 (X + 9) = m_r h (X + 9)) (r33k : m_r h1 (X + 33) k = some s) (r33 : ∀ k', k' ≠ k → m_r h1 (X + 33) k' = m_r h (X + 33) k') (dst : ∀ k', k' < 4 → k' ≠ k → m_r h (X + 33) k' ≠ some s) (ii : ∀ a, a = X ∨ a = X + 1 ∨ a = X + 2 ∨ a = X + 10 ∨ a = X + 31 ∨ a = X + 32 → m_i h1 a = m_i h a) (r10 : m_r h1 (X + 10) 0 = m_r h (X + 10) 0) (sB : X + 122 ≤ s ∧ s + 3 ≤ m_n h1) (sO : ∀ a, s ≤ a → a < s + 3 → own' a = s) (sS : ScS h1 s (s + 1) (s + 2)) (sr : m_r h1 s 0 = m_r h (X + 10) 0) (si : ∀ i, 1 ≤ i → i ≤ 4 → m_i h1 s i = m_i h (X + 10) i) (sa : ∀ j, j < 10 → m_i h1 (s + 1) j = m_i h (X + 31) j ∧ m_i h1 (s + 2) j = m_i h (X + 32) j) (e0 : ∀ i, i ≠ 83 → i ≠ 84 → w2.1 0 i = w.1 0 i) (er : ∀ r, r ≠ 0 → r ≠ 54 → r ≠ 81 → r ≠ 82 → w2.1 r = w.1 r) (e82 : w2.1 82 k = 1) (e82' : ∀ k', k' ≠ k → w2.1 82 k' = w.1 82 k') (e81 : ∀ j, w2.1 81 j = if 1250 * k + 65 ≤ j ∧ j < 1250 * k + 65 + lenS (sgs RA) then pickS 81 (sgs RA) (1250 * k + 65) w.1 j else if j = 1250 * k + 64 then w.1 0 55 else pickS 81 (sgs R7) (1250 * k) w.1 j) : RelO own' R h1 X w2 ∧ Kp X h h1 := by
  obtain ⟨g, ta, r, l, ⟨U, u, sc⟩, i⟩ := hR
  obtain ⟨p1, p2, p3, p4⟩ := img_new e81
  have hss : ScS h1 (X + 10) (X + 31) (X + 32) := by
    obtain ⟨_, _, s1, -⟩ := sc
    unfold ScS at s1 ⊢
    rw [hX.1 _ (by omega) (by omega), hX.1 _ (by omega) (by omega), hX.1 _ (by omega) (by omega), hX.2.2.1 5 (by decide), hX.2.2.1 6 (by decide)]; exact s1
  have epw : PW w.1 w2.1 := fun r q1 q2 i _ => by rw [er r (by omega) (by omega) (by omega) (by omega)]
  refine ⟨⟨hX.gs hD.1 g, ta.fr (ii _ (by omega)) (ii _ (by omega)) (e0 32 (by decide) (by decide)) (er 42 (by decide) (by decide) (by decide) (by decide)), ⟨r.1, by rw [e0 36 (by decide) (by decide)]; exact r.2.1, by rw [ii X (by omega)]; exact r.2.2.1, by rw [e0 41 (by decide) (by decide)]; exact r.2.2.2⟩, l.frd hE hD ho (fun _ _ => by rw [h9]) (fun k q1 q2 => er k (by omega) (by omega) (by omega) (by omega)), ⟨U, by rw [e0 55 (by decide) (by decide)]; exact u, (sc.cp l hE hD hX ho hss r10 (fun _ _ _ => by rw [ii _ (by omega)]) (fun _ _ => by rw [ii _ (by omega), ii _ (by omega)]; exact ⟨rfl, rfl⟩)).pw epw (fun n _ => by rw [er 53 (by decide) (by decide) (by decide) (by decide)])⟩, fun k' hk' => ?_⟩, hX.kp hD.1⟩
  by_cases z : k' = k
  · subst z
    exact Or.inr ⟨e82, s, U, r33k, sB.1, sB.2, ⟨sO, fun k' q0 q => by rw [r33 k' q]; exact dst k' q0 q⟩, by rw [p3]; exact u, (sc.cp l hE hD hX ho sS sr si sa).pw p1 p2⟩
  · have hI := i k' hk'
    unfold ImR at hI ⊢
    rw [e82' k' z, r33 k' z]
    obtain ⟨q1, q2, q3⟩ := img_one (v := w.1) (v' := w2.1) (k := k') (fun j j1 j2 => p4 j (by omega))
    rcases hI with a | ⟨a, s', U', b, cc, d, f, gg, sc'⟩
    · exact Or.inl a
    · refine Or.inr ⟨a, s', U', b, cc, by have := hD.1; omega, ⟨fun q q1 q2 => by rw [ho q (by omega)]; exact f.1 q q1 q2, fun k2 h4 hk2 => ?_⟩, by rw [q3]; exact gg, ?_⟩
      · by_cases y : k2 = k
        · subst y; rw [r33k]
          intro e
          exact dst k' hk' z (by rw [b, ← e])
        · rw [r33 k2 y]; exact f.2 k2 h4 hk2
      · exact (sc'.pw q1 q2).frd ⟨cc, d⟩ f.1 l hE hD hX ho (hEx k' s' hk' z b f.1)
/-- a new scene -/
theorem c_scinit (h : AH) (c : Nat) : ∃ h', f_X6_init G (m_n h) c (m_new h (.inl 6)) = some h' ∧ m_n h' = m_n h + 3 ∧ Old (m_n h) h h' ∧ ScS h' (m_n h) (m_n h + 1) (m_n h + 2) := by
  let h2 := m_si (m_si (m_si (m_si (m_new h (.inl 6)) (m_n h) 1 0) (m_n h) 2 (-1)) (m_n h) 3 0) (m_n h) 4 0
  let h3 := m_sr (m_new h2 (.inr (.int, 10))) (m_n h) 5 (some (m_n h + 1))
  let h4 := m_sr (m_sr (m_new h3 (.inr (.int, 10))) (m_n h) 6 (some (m_n h + 2))) (m_n h) 0 (some c)
  have n2 : m_n h2 = m_n h + 1 := rfl
  have n3 : m_n h3 = m_n h + 2 := rfl
  have t2 : m_t h2 (m_n h) = .inl 6 := t_newn
  have t3 : m_t h3 (m_n h) = .inl 6 := (t_newo (by rw [n2]; omega)).trans t2
  have t4 : m_t h4 (m_n h) = .inl 6 := (t_newo (by rw [n3]; omega)).trans t3
  refine ⟨h4, ?_, rfl, ?_, t4, ?_, ?_, ?_, ?_⟩
  · unfold f_X6_init
    rw [u_ck (show m_t (m_new h (.inl 6)) (m_n h) = .inl 6 from t_newn), u_nn, u_nn, u_nn, u_nn, u_nn, u_nn]
    refine Eq.trans (u_ck (show m_t (m_new h2 (.inr (.int, 10))) (m_n h) = .inl 6 from (t_newo (by rw [n2]; omega)).trans t2)) ?_
    rw [u_nn, u_nn, u_nn]
    refine Eq.trans (u_ck (show m_t (m_new h3 (.inr (.int, 10))) (m_n h) = .inl 6 from (t_newo (by rw [n3]; omega)).trans t3)) ?_
    rfl
  · have o2 : Old (m_n h) h h2 := ((((Old.new (Nat.le_refl _)).tr (Old.si (Nat.le_refl _))).tr (Old.si (Nat.le_refl _))).tr (Old.si (Nat.le_refl _))).tr (Old.si (Nat.le_refl _))
    have o3 : Old (m_n h) h2 h3 := (Old.new (by rw [n2]; omega)).tr (Old.sr (Nat.le_refl _))
    have o4 : Old (m_n h) h3 h4 := ((Old.new (by rw [n3]; omega)).tr (Old.sr (Nat.le_refl _))).tr (Old.sr (Nat.le_refl _))
    exact (o2.tr o3).tr o4
  · show m_r (m_sr (m_sr (m_new h3 _) (m_n h) 6 _) (m_n h) 0 _) (m_n h) 5 = _
    rw [m_r_srj (by decide), m_r_srj (by decide), r_newo (by rw [n3]; omega)]
    exact m_r_srs _ _ _ _
  · show m_r (m_sr (m_sr (m_new h3 _) (m_n h) 6 _) (m_n h) 0 _) (m_n h) 6 = _
    rw [m_r_srj (by decide)]
    exact m_r_srs _ _ _ _
  · show m_t (m_new h3 _) (m_n h + 1) = _
    rw [t_newo (by rw [n3]; omega)]
    show m_t (m_new h2 _) (m_n h + 1) = _
    exact t_newn (h := h2)
  · show m_t (m_new h3 _) (m_n h + 2) = _
    exact t_newn (h := h3)
end
