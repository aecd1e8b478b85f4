/-! PURE 99i: the clauses of a train. -/
section
variable {G : GG} {X t N k : Nat} {T : Nat → Nat} {h h' h1 h2 : AH} {w w' w1 w2 wr wr' : MS} {wl : List (List Nat)} {f : Int32}
theorem FrW.d (a : FrW w w') : (∀ r, (r ≠ 0 ∧ r < 20) ∨ 31 < r → w'.1 r = w.1 r) ∧ ∀ j, j ≠ 33 → j ≠ 34 → w'.1 0 j = w.1 0 j := ⟨fun r hr => a.1 r (by omega), a.2⟩
theorem Fr.tn1 (a : Fr (fun a => a = X + 1) h h1) : Fr (STn X t) h h1 := a.wk (fun q hq => Or.inl hq)
theorem Fr.tns {a j : Nat} {v : Int32} (ha : t ≤ a ∧ a < t + 15) : Fr (STn X t) h (m_si h a j v) := Fr.si (S := STn X t) (Or.inr (Or.inr ha))
theorem Fr.tn6 {j : Nat} {v : Int32} : Fr (STn X t) h (m_si h (X + 6) j v) := Fr.si (S := STn X t) (Or.inr (Or.inl rfl))
theorem cl_start (hl20 : wl.length ≤ 20) (hs : SyH wl N T X h w k 0) (hX : X + 122 ≤ t) (hT : TrS h t) (hd : TD h X t w) : Cls True wl N T X t h w (f_X10_readStart G (X + 6) t h) (p_X12_trainPart G 0 w) := by
  obtain ⟨r1, s1, h1, w1, k1, f1, a1, a2, a3, a4, a5, a6, a7, -⟩ := numH (G := G) hl20 hs (lo := 0) (hi := 60) (by decide)
  have b3 : SyH wl N T X (m_si h1 t 1 r1) (w_si w1 20 1 s1) k1 f1 := (a3.si (by omega)).ws (by decide)
  obtain ⟨r2, s2, h2, w2, k2, f2, c1, c2, c3, c4, c5, c6, c7, -⟩ := numH (G := G) hl20 b3 (lo := 0) (hi := 3) (by decide)
  have d3 : SyH wl N T X (m_si h2 t 2 r2) (w_si w2 20 2 s2) k2 f2 := (c3.si (by omega)).ws (by decide)
  obtain ⟨r3, s3, h3, w3, k3, f3, e1, e2, e3, e4, e5, e6, e7, -⟩ := numH (G := G) hl20 d3 (lo := 0) (hi := 6) (by decide)
  have g3 : SyH wl N T X (m_si h3 t 3 r3) (w_si (w_si w3 20 3 s3) 20 0 1) k3 f3 := ((e3.si (by omega)).ws (by decide)).ws (by decide)
  have hF : Fr (STn X t) h (m_si h3 t 3 r3) := (((((Fr.tn1 a4).tr (Fr.tns (by omega))).tr (Fr.tn1 c4)).tr (Fr.tns (by omega))).tr (Fr.tn1 e4)).tr (Fr.tns (by omega))
  have i1 : ∀ a, a ≠ X + 1 → m_i h1 a = m_i h a := fun a ha => (a4.2.2.2 a ha).1
  have i2 : ∀ a, a ≠ X + 1 → m_i h2 a = m_i (m_si h1 t 1 r1) a := fun a ha => (c4.2.2.2 a ha).1
  have i3 : ∀ a, a ≠ X + 1 → m_i h3 a = m_i (m_si h2 t 2 r2) a := fun a ha => (e4.2.2.2 a ha).1
  have hi : ∀ a, a ≠ X + 1 → a ≠ t → m_i (m_si h3 t 3 r3) a = m_i h a := fun a q1 q2 => by rw [m_i_sb q2, i3 a q1, m_i_sb q2, i2 a q1, m_i_sb q2, i1 a q1]
  have ht : ∀ j, m_i (m_si h3 t 3 r3) t j = if j = 3 then r3 else if j = 2 then r2 else if j = 1 then r1 else m_i h t j := fun j => by
    rw [m_i_si, i3 t (by omega), m_i_si, i2 t (by omega), m_i_si, i1 t (by omega)]
    simp
  have wr1 : ∀ r, r ≠ 0 → w1.1 r = w.1 r := a5.1
  have wr2 : ∀ r, r ≠ 0 → w2.1 r = (w_si w1 20 1 s1).1 r := c5.1
  have wr3 : ∀ r, r ≠ 0 → w3.1 r = (w_si w2 20 2 s2).1 r := e5.1
  have hw : ∀ r, r ≠ 0 → r ≠ 20 → (w_si (w_si w3 20 3 s3) 20 0 1).1 r = w.1 r := fun r q1 q2 => by rw [w_si_r q2, w_si_r q2, wr3 r q1, w_si_r q2, wr2 r q1, w_si_r q2, wr1 r q1]
  have hw20 : ∀ j, (w_si (w_si w3 20 3 s3) 20 0 1).1 20 j = if j = 0 then 1 else if j = 3 then s3 else if j = 2 then s2 else if j = 1 then s1 else w.1 20 j := fun j => by
    rw [w_si_e, w_si_e, wr3 20 (by decide), w_si_e, wr2 20 (by decide), w_si_e, wr1 20 (by decide)]
    simp
  have hw0 : ∀ j, j ≠ 33 → j ≠ 34 → (w_si (w_si w3 20 3 s3) 20 0 1).1 0 j = w.1 0 j := fun j q1 q2 => by rw [w_si_r (by decide), w_si_r (by decide), e5.2 j q1 q2, w_si_r (by decide), c5.2 j q1 q2, w_si_r (by decide), a5.2 j q1 q2]
  refine ⟨m_si h3 t 3 r3, w_si (w_si w3 20 3 s3) 20 0 1, k3, f3, ?_, ?_, g3, hF, fun r hr => hw r (by omega) (by omega), hw0, fun z => ⟨?_, fun _ => by rw [hw20, if_pos rfl]⟩⟩
  · obtain ⟨p1, p2, p3⟩ := rd6 hs.1
    obtain ⟨q1, q2, q3⟩ := rd6 b3.1
    obtain ⟨u1, u2, u3⟩ := rd6 d3.1
    have tt : m_t h1 t = .inl 9 := by rw [a4.1]; exact hT.1
    have tt2 : m_t h2 t = .inl 9 := by rw [c4.1, m_t_si]; exact tt
    have tt3 : m_t h3 t = .inl 9 := by rw [e4.1, m_t_si]; exact tt2
    unfold f_X10_readStart
    rw [u_ck p1, p2, u_ob, u_ck p3, a1, u_cb, u_ck tt, u_nn, u_ck q1, q2, u_ob, u_ck q3, c1, u_cb, u_ck tt2, u_nn, u_ck u1, u2, u_ob, u_ck u3, e1, u_cb, u_ck tt3, u_nn]
  · unfold p_X12_trainPart
    rw [if_pos rfl, a2, u_cw, u_ck ix_10_1, u_nn, tn_1, c2, u_cw, u_ck ix_10_2, u_nn, tn_2, e2, u_cw, u_ck ix_10_3, u_nn, tn_3, u_ck ix_10_0, u_nn, tn_0]
  · obtain ⟨z2, y3, lo3, hi3⟩ := e7 z
    obtain ⟨z1, y2, lo2, hi2⟩ := c7 z2
    obtain ⟨-, y1, lo1, hi1⟩ := a7 z1
    subst y1 y2 y3
    obtain ⟨s, n, a, b, c, g, u, q⟩ := hd
    refine ⟨⟨?_, ?_, ?_, ?_, ?_, ?_, ?_, ?_, ?_, ?_⟩, n, a, b, ?_, ⟨?_, fun i hi' => ?_, fun i p1 p2 => ?_⟩, ⟨fun i hi' => ?_, fun i hi' => ?_⟩, fun i hi' => ?_⟩
    · rw [ht, hw20]; rfl
    · rw [hw20]; exact bd_r lo1 hi1 rfl rfl
    · rw [ht, hw20]; rfl
    · rw [hw20]; exact bd_r lo2 hi2 rfl rfl
    · rw [ht, hw20]; rfl
    · rw [hw20]; exact bd_r lo3 hi3 rfl rfl
    · rw [ht, hw20]; exact s.2.2.2.2.2.2.1
    · rw [hw20]; exact s.2.2.2.2.2.2.2.1
    · rw [hi _ (by omega) (by omega), hw20]; exact s.2.2.2.2.2.2.2.2.1
    · rw [hw20]; exact s.2.2.2.2.2.2.2.2.2
    · unfold TDc at c ⊢; rw [hw20, hw20, hw20, ht, ht, ht]; exact c
    · rw [hw20]; exact g.1
    · rw [hi _ (by omega) (by omega)]; unfold fr20; rw [hw20]; exact g.2.1 i hi'
    · rw [hi _ (by omega) (by omega)]; exact g.2.2 i p1 p2
    · rw [hi _ (by omega) (by omega), hi _ (by omega) (by omega), hw 27 (by decide) (by decide), hw 28 (by decide) (by decide)]; exact u.1 i hi'
    · rw [hi _ (by omega) (by omega), hi _ (by omega) (by omega), hi _ (by omega) (by omega), hw 29 (by decide) (by decide), hw 30 (by decide) (by decide), hw 31 (by decide) (by decide)]; exact u.2 i hi'
    · have := q i hi'
      have hn := c.1
      unfold TDq at this ⊢
      rw [hi _ (by omega) (by omega), hw 21 (by decide) (by decide), hw 22 (by decide) (by decide), hw 23 (by decide) (by decide), hw 24 (by decide) (by decide), hw 25 (by decide) (by decide), hw 26 (by decide) (by decide)]; exact this
theorem cl_hole (hl20 : wl.length ≤ 20) (hs : SyH wl N T X h w k 0) (hX : X + 122 ≤ t) (hT : TrS h t) (hd : TD h X t w) : Cls False wl N T X t h w (f_X10_readHole G (X + 6) t h) (p_X12_trainPart G 1 w) := by
  obtain ⟨r1, s1, h1, w1, k1, f1, a1, a2, a3, a4, a5, a6, a7, -⟩ := numH (G := G) hl20 hs (lo := 0) (hi := 5) (by decide)
  have b3 : SyH wl N T X (m_si (m_si h1 t 4 r1) (X + 6) 1 1) (w_si (w_si w1 20 4 s1) 20 5 1) k1 f1 := (((a3.si (by omega)).s6).ws (by decide)).ws (by decide)
  have hF : Fr (STn X t) h (m_si (m_si h1 t 4 r1) (X + 6) 1 1) := ((Fr.tn1 a4).tr (Fr.tns (by omega))).tr Fr.tn6
  have i1 : ∀ a, a ≠ X + 1 → m_i h1 a = m_i h a := fun a ha => (a4.2.2.2 a ha).1
  have hi : ∀ a, a ≠ X + 1 → a ≠ t → a ≠ X + 6 → m_i (m_si (m_si h1 t 4 r1) (X + 6) 1 1) a = m_i h a := fun a q1 q2 q3 => by rw [m_i_sb q3, m_i_sb q2, i1 a q1]
  have ht : ∀ j, m_i (m_si (m_si h1 t 4 r1) (X + 6) 1 1) t j = if j = 4 then r1 else m_i h t j := fun j => by
    rw [m_i_sb (by omega), m_i_si, i1 t (by omega)]
    simp
  have hw : ∀ r, r ≠ 0 → r ≠ 20 → (w_si (w_si w1 20 4 s1) 20 5 1).1 r = w.1 r := fun r q1 q2 => by rw [w_si_r q2, w_si_r q2, a5.1 r q1]
  have hw20 : ∀ j, (w_si (w_si w1 20 4 s1) 20 5 1).1 20 j = if j = 5 then 1 else if j = 4 then s1 else w.1 20 j := fun j => by
    rw [w_si_e, w_si_e, a5.1 20 (by decide)]
    simp
  have hw0 : ∀ j, j ≠ 33 → j ≠ 34 → (w_si (w_si w1 20 4 s1) 20 5 1).1 0 j = w.1 0 j := fun j q1 q2 => by rw [w_si_r (by decide), w_si_r (by decide), a5.2 j q1 q2]
  refine ⟨_, _, k1, f1, ?_, ?_, b3, hF, fun r hr => hw r (by omega) (by omega), hw0, fun z => ⟨?_, fun y => by rw [hw20]; exact y.resolve_right id⟩⟩
  · obtain ⟨p1, p2, p3⟩ := rd6 hs.1
    have tt : m_t h1 t = .inl 9 := by rw [a4.1]; exact hT.1
    have t6 : m_t (m_si h1 t 4 r1) (X + 6) = .inl 10 := by rw [m_t_si, a4.1]; exact p1
    unfold f_X10_readHole
    rw [u_ck p1, p2, u_ob, u_ck p3, a1, u_cb, u_ck tt, u_nn, u_ck t6, u_nn]
  · unfold p_X12_trainPart
    rw [if_neg (by decide), if_pos rfl, a2, u_cw, u_ck ix_10_4, u_nn, tn_4, u_ck ix_10_5, u_nn, tn_5]
  · obtain ⟨-, y1, lo1, hi1⟩ := a7 z
    subst y1
    obtain ⟨s, n, a, b, c, g, u, q⟩ := hd
    refine ⟨⟨?_, ?_, ?_, ?_, ?_, ?_, ?_, ?_, ?_, ?_⟩, n, a, b, ?_, ⟨?_, fun i hi' => ?_, fun i p1 p2 => ?_⟩, ⟨fun i hi' => ?_, fun i hi' => ?_⟩, fun i hi' => ?_⟩
    · rw [ht, hw20]; exact s.1
    · rw [hw20]; exact s.2.1
    · rw [ht, hw20]; exact s.2.2.1
    · rw [hw20]; exact s.2.2.2.1
    · rw [ht, hw20]; exact s.2.2.2.2.1
    · rw [hw20]; exact s.2.2.2.2.2.1
    · rw [ht, hw20]; rfl
    · rw [hw20]; exact bd_r lo1 hi1 rfl rfl
    · rw [m_i_ss, hw20]; rfl
    · rw [hw20]; exact Or.inr rfl
    · unfold TDc at c ⊢; rw [hw20, hw20, hw20, ht, ht, ht]; exact c
    · rw [hw20]; exact g.1
    · rw [hi _ (by omega) (by omega) (by omega)]; unfold fr20; rw [hw20]; exact g.2.1 i hi'
    · rw [hi _ (by omega) (by omega) (by omega)]; exact g.2.2 i p1 p2
    · rw [hi _ (by omega) (by omega) (by omega), hi _ (by omega) (by omega) (by omega), hw 27 (by decide) (by decide), hw 28 (by decide) (by decide)]; exact u.1 i hi'
    · rw [hi _ (by omega) (by omega) (by omega), hi _ (by omega) (by omega) (by omega), hi _ (by omega) (by omega) (by omega), hw 29 (by decide) (by decide), hw 30 (by decide) (by decide), hw 31 (by decide) (by decide)]; exact u.2 i hi'
    · have := q i hi'
      have hn := c.1
      unfold TDq at this ⊢
      rw [hi _ (by omega) (by omega) (by omega), hw 21 (by decide) (by decide), hw 22 (by decide) (by decide), hw 23 (by decide) (by decide), hw 24 (by decide) (by decide), hw 25 (by decide) (by decide), hw 26 (by decide) (by decide)]; exact this
theorem i_lo {r : Int32} (h : (0 : Int32) ≤ r) : 0 ≤ r.toInt := by rw [I_le] at h; exact h
theorem cl_tunnel (hl20 : wl.length ≤ 20) (hs : SyH wl N T X h w k 0) (hX : X + 122 ≤ t) (hT : TrS h t) (hd : TD h X t w) (h5 : ¬ w.1 20 8 = 5) : Cls False wl N T X t h w (f_X10_readTunnel G (X + 6) t h) (p_X12_trainPart G 5 w) := by
  obtain ⟨s, n, a, b, c, g, u, q⟩ := hd
  obtain ⟨c1, c2, c3, c4, c5, c6, c7, c8, c9⟩ := c
  have ha5 : a < 5 := by
    rcases Nat.lt_or_ge a 5 with z | z
    · exact z
    · exact absurd (by rw [c5, show a = 5 by omega]; rfl) h5
  obtain ⟨r1, s1, h1, w1, k1, f1, a1, a2, a3, a4, a5, a6, a7, -⟩ := numH (G := G) hl20 hs (lo := 0) (hi := 239) (by decide)
  have b3 : SyH wl N T X (m_si h1 (t + 2) a r1) (w_si w1 27 a s1) k1 f1 := (a3.si (by omega)).ws (by decide)
  have rge : (f1 = 0 → 0 ≤ r1.toInt) := fun z => i_lo (a7 z).2.2.1
  -- the second number; after a fault its bounds do not matter
  have nx : ∃ r2 s2 h2 w2 k2 f2, lri 0 (X + 1) (s_X8_takeNumber G r1 239) (m_si h1 (t + 2) a r1) = some (r2, h2) ∧ p_X12_amount G s1 239 (w_si w1 27 a s1) = some (s2, w2) ∧ SyH wl N T X h2 w2 k2 f2 ∧ Fr (fun a => a = X + 1) (m_si h1 (t + 2) a r1) h2 ∧ FrW (w_si w1 27 a s1) w2 ∧ (f2 = 0 → f1 = 0 ∧ r2 = s2 ∧ r1 ≤ r2 ∧ r2 ≤ 239) := by
    by_cases z : f1 = 0
    · obtain ⟨-, e, -, -⟩ := a7 z
      subst e
      obtain ⟨r2, s2, h2, w2, k2, f2, d1, d2, d3, d4, d5, d6, d7, -⟩ := numH (G := G) hl20 b3 (lo := r1) (hi := 239) (rge z)
      exact ⟨r2, s2, h2, w2, k2, f2, d1, d2, d3, d4, d5, d7⟩
    · obtain ⟨r2, s2, h2, w2, k2, f2, d1, d2, d3, d4, d5, d6, -⟩ := numF (G := G) b3 z r1 239 s1 239
      exact ⟨r2, s2, h2, w2, k2, f2, d1, d2, d3, d4, d5, fun y => absurd (d6 ▸ y) z⟩
  obtain ⟨r2, s2, h2, w2, k2, f2, d1, d2, d3, d4, d5, d7⟩ := nx
  have i1 : ∀ a, a ≠ X + 1 → m_i h1 a = m_i h a := fun a ha => (a4.2.2.2 a ha).1
  have i2 : ∀ q, q ≠ X + 1 → m_i h2 q = m_i (m_si h1 (t + 2) a r1) q := fun q ha => (d4.2.2.2 q ha).1
  have e7 : m_i h1 t 7 = nI a := by rw [i1 t (by omega)]; exact c8
  have e7' : m_i h2 t 7 = nI a := by rw [i2 t (by omega), m_i_sb (by omega)]; exact e7
  have g3 : SyH wl N T X (m_si (m_si h2 (t + 3) a r2) t 7 (nI (a + 1))) (w_si (w_si w2 28 a s2) 20 8 (nI (a + 1))) k2 f2 := (((d3.si (by omega)).si (by omega)).ws (by decide)).ws (by decide)
  have hF : Fr (STn X t) h (m_si (m_si h2 (t + 3) a r2) t 7 (nI (a + 1))) := ((((Fr.tn1 a4).tr (Fr.tns (by omega))).tr (Fr.tn1 d4)).tr (Fr.tns (by omega))).tr (Fr.tns (by omega))
  have hi : ∀ q, q ≠ X + 1 → q ≠ t → q ≠ t + 2 → q ≠ t + 3 → m_i (m_si (m_si h2 (t + 3) a r2) t 7 (nI (a + 1))) q = m_i h q := fun q q1 q2 q3 q4 => by rw [m_i_sb q2, m_i_sb q4, i2 q q1, m_i_sb q3, i1 q q1]
  have ht : ∀ j, m_i (m_si (m_si h2 (t + 3) a r2) t 7 (nI (a + 1))) t j = if j = 7 then nI (a + 1) else m_i h t j := fun j => by
    rw [m_i_si, m_i_sb (by omega), i2 t (by omega), m_i_sb (by omega), i1 t (by omega)]; simp
  have ht2 : ∀ j, m_i (m_si (m_si h2 (t + 3) a r2) t 7 (nI (a + 1))) (t + 2) j = if j = a then r1 else m_i h (t + 2) j := fun j => by
    rw [m_i_sb (by omega), m_i_sb (by omega), i2 (t + 2) (by omega), m_i_si, i1 (t + 2) (by omega)]; simp
  have ht3 : ∀ j, m_i (m_si (m_si h2 (t + 3) a r2) t 7 (nI (a + 1))) (t + 3) j = if j = a then r2 else m_i h (t + 3) j := fun j => by
    rw [m_i_sb (by omega), m_i_si, i2 (t + 3) (by omega), m_i_sb (by omega), i1 (t + 3) (by omega)]; simp
  have hw : ∀ r, r ≠ 0 → r ≠ 20 → r ≠ 27 → r ≠ 28 → (w_si (w_si w2 28 a s2) 20 8 (nI (a + 1))).1 r = w.1 r := fun r q1 q2 q3 q4 => by rw [w_si_r q2, w_si_r q4, d5.1 r q1, w_si_r q3, a5.1 r q1]
  have hw20 : ∀ j, (w_si (w_si w2 28 a s2) 20 8 (nI (a + 1))).1 20 j = if j = 8 then nI (a + 1) else w.1 20 j := fun j => by
    rw [w_si_e, w_si_r (by decide), d5.1 20 (by decide), w_si_r (by decide), a5.1 20 (by decide)]; simp
  have hw27 : ∀ j, (w_si (w_si w2 28 a s2) 20 8 (nI (a + 1))).1 27 j = if j = a then s1 else w.1 27 j := fun j => by
    rw [w_si_r (by decide), w_si_r (by decide), d5.1 27 (by decide), w_si_e, a5.1 27 (by decide)]; simp
  have hw28 : ∀ j, (w_si (w_si w2 28 a s2) 20 8 (nI (a + 1))).1 28 j = if j = a then s2 else w.1 28 j := fun j => by
    rw [w_si_r (by decide), w_si_e, d5.1 28 (by decide), w_si_r (by decide), a5.1 28 (by decide)]; simp
  have hw0 : ∀ j, j ≠ 33 → j ≠ 34 → (w_si (w_si w2 28 a s2) 20 8 (nI (a + 1))).1 0 j = w.1 0 j := fun j q1 q2 => by rw [w_si_r (by decide), w_si_r (by decide), d5.2 j q1 q2, w_si_r (by decide), a5.2 j q1 q2]
  have ca : (nI a).toNatClampNeg = a := nI_clamp (by omega)
  have xa : ∀ (h0 : AH) q, m_t h0 q = .inr (.int, 5) → ixb h0 q .int (nI a) = true := fun h0 q z => ixb_e z ha5 (by decide)
  refine ⟨_, _, k2, f2, ?_, ?_, g3, hF, fun r hr => hw r (by omega) (by omega) (by omega) (by omega), hw0, fun z => ⟨?_, fun y => by rw [hw20]; exact y.resolve_right id⟩⟩
  · obtain ⟨p1, p2, p3⟩ := rd6 hs.1
    obtain ⟨q1, q2, q3⟩ := rd6 b3.1
    have hT1 : TrS h1 t := hT.fr' a4
    have hT2 : TrS h2 t := by unfold TrS at hT1 ⊢; rw [d4.1, d4.2.1, m_t_si, m_r_si]; exact hT1
    unfold f_X10_readTunnel
    rw [u_ck p1, p2, u_ob, u_ck p3, a1, u_cb, u_ck hT1.1, hT1.2.2.1, u_ob, e7, u_ck (xa _ _ hT1.2.2.2.2.2.2.2.2.1.1), u_nn, ca, m_r_si, hT1.2.2.2.1, u_ob, u_ck q1]
    rw [show m_r h1 (X + 6) 0 = some (X + 1) from q2, u_ob, u_ck q3, d1, u_cb, m_i_sb (show t ≠ t + 2 by omega), e7, u_ck (xa _ _ hT2.2.2.2.2.2.2.2.2.1.2.1), u_nn, ca, m_t_si, u_ck hT2.1, m_i_sb (show t ≠ t + 3 by omega), e7', nI_1, u_nn]
  · have xx : ixn 5 (nI a) = true := u_ixn ha5 (by decide)
    have w8 : w2.1 20 8 = nI a := by rw [d5.1 20 (by decide), w_si_r (by decide), a5.1 20 (by decide)]; exact c5
    unfold p_X12_trainPart
    rw [if_neg (by decide), if_neg (by decide), if_neg (by decide), if_neg (by decide), if_neg (by decide), if_pos rfl, u_ck ix_10_8, tn_8, c5, u_nn, a2, u_cw, u_ck xx, u_nn, ca, u_ck xx, w_si_s, d2, u_cw, u_ck xx, u_nn, u_ck ix_10_8, u_ck ix_10_8, w_si_r (by decide), w8, nI_1, u_nn]
  · obtain ⟨z1, y2, lo2, hi2⟩ := d7 z
    obtain ⟨-, y1, lo1, hi1⟩ := a7 z1
    subst y1 y2
    refine ⟨⟨?_, ?_, ?_, ?_, ?_, ?_, ?_, ?_, ?_, ?_⟩, n, a + 1, b, ⟨c1, by omega, c3, ?_, ?_, ?_, ?_, ?_, ?_⟩, ⟨?_, fun i hi' => ?_, fun i p1 p2 => ?_⟩, ⟨fun i hi' => ?_, fun i hi' => ?_⟩, fun i hi' => ?_⟩
    · rw [ht, hw20]; exact s.1
    · rw [hw20]; exact s.2.1
    · rw [ht, hw20]; exact s.2.2.1
    · rw [hw20]; exact s.2.2.2.1
    · rw [ht, hw20]; exact s.2.2.2.2.1
    · rw [hw20]; exact s.2.2.2.2.2.1
    · rw [ht, hw20]; exact s.2.2.2.2.2.2.1
    · rw [hw20]; exact s.2.2.2.2.2.2.2.1
    · rw [hi _ (by omega) (by omega) (by omega) (by omega), hw20]; exact s.2.2.2.2.2.2.2.2.1
    · rw [hw20]; exact s.2.2.2.2.2.2.2.2.2
    · rw [hw20]; exact c4
    · rw [hw20]; rfl
    · rw [hw20]; exact c6
    · rw [ht]; exact c7
    · rw [ht]; rfl
    · rw [ht]; exact c9
    · rw [hw20]; exact g.1
    · rw [hi _ (by omega) (by omega) (by omega) (by omega)]; unfold fr20; rw [hw20]; exact g.2.1 i hi'
    · rw [hi _ (by omega) (by omega) (by omega) (by omega)]; exact g.2.2 i p1 p2
    · rw [ht2, ht3, hw27, hw28]
      by_cases y : i = a
      · rw [if_pos y, if_pos y, if_pos y, if_pos y]
        refine ⟨rfl, rfl, bd_r lo1 hi1 rfl rfl, ?_⟩
        rw [I_le] at lo1 lo2 hi2
        have i0 : (0 : Int32).toInt = 0 := rfl
        have i239 : (239 : Int32).toInt = 239 := rfl
        unfold bd; omega
      · rw [if_neg y, if_neg y, if_neg y, if_neg y]; exact u.1 i (by omega)
    · rw [hi _ (by omega) (by omega) (by omega) (by omega), hi _ (by omega) (by omega) (by omega) (by omega), hi _ (by omega) (by omega) (by omega) (by omega), hw 29 (by decide) (by decide) (by decide) (by decide), hw 30 (by decide) (by decide) (by decide) (by decide), hw 31 (by decide) (by decide) (by decide) (by decide)]; exact u.2 i hi'
    · have := q i hi'
      unfold TDq at this ⊢
      rw [hi _ (by omega) (by omega) (by omega) (by omega), hw 21 (by decide) (by decide) (by decide) (by decide), hw 22 (by decide) (by decide) (by decide) (by decide), hw 23 (by decide) (by decide) (by decide) (by decide), hw 24 (by decide) (by decide) (by decide) (by decide), hw 25 (by decide) (by decide) (by decide) (by decide), hw 26 (by decide) (by decide) (by decide) (by decide)]; exact this
end
