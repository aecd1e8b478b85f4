/-! PURE 99j: the clauses of a train: cold, person, front, says. -/
section
variable {G : GG} {X t N k : Nat} {T : Nat → Nat} {h h' h1 h2 : AH} {w w' w1 w2 wr wr' : MS} {wl : List (List Nat)} {f : Int32}
/-- a number whose bound hangs on one read before -/
theorem numL (hl20 : wl.length ≤ 20) (hs : SyH wl N T X h w k f) {lo lo' hi : Int32} (he : f = 0 → lo = lo' ∧ 0 ≤ lo.toInt) : ∃ r r' h' w' k' f', lri 0 (X + 1) (s_X8_takeNumber G lo hi) h = some (r, h') ∧ p_X12_amount G lo' hi w = some (r', w') ∧ SyH wl N T X h' w' k' f' ∧ Fr (fun a => a = X + 1) h h' ∧ FrW w w' ∧ (f' = 0 → f = 0 ∧ r = r' ∧ lo ≤ r ∧ r ≤ hi) ∧ (f' ≠ 0 → r = -1) := by
  by_cases z : f = 0
  · obtain ⟨e, hl⟩ := he z
    subst e
    obtain ⟨r2, s2, h2, w2, k2, f2, d1, d2, d3, d4, d5, d6, d7, d8⟩ := numH (G := G) hl20 hs (lo := lo) (hi := hi) hl
    exact ⟨r2, s2, h2, w2, k2, f2, d1, d2, d3, d4, d5, d7, d8⟩
  · obtain ⟨r2, s2, h2, w2, k2, f2, d1, d2, d3, d4, d5, d6, d7⟩ := numF (G := G) hs z lo hi lo' hi
    exact ⟨r2, s2, h2, w2, k2, f2, d1, d2, d3, d4, d5, fun y => absurd (d6 ▸ y) z, fun _ => d7⟩
theorem cl_cold (hl20 : wl.length ≤ 20) (hs : SyH wl N T X h w k 0) (hX : X + 122 ≤ t) (hT : TrS h t) (hd : TD h X t w) (h5 : ¬ w.1 20 9 = 5) {y : Int32} (hy : y ≠ 0 ∧ y ≠ 1 ∧ y ≠ 2 ∧ y ≠ 3 ∧ y ≠ 4 ∧ y ≠ 5) : Cls False wl N T X t h w (f_X10_readCold G (X + 6) t h) (p_X12_trainPart G y w) := by
  obtain ⟨s, n, a, b, c, g, u, q⟩ := hd
  obtain ⟨c1, c2, c3, c4, c5, c6, c7, c8, c9⟩ := c
  have ha5 : b < 5 := by
    rcases Nat.lt_or_ge b 5 with z | z
    · exact z
    · exact absurd (by rw [c6, show b = 5 by omega]; rfl) h5
  obtain ⟨r1, s1, h1, w1, k1, f1, a1, a2, a3, a4, a5, a6, a7, -⟩ := numH (G := G) hl20 hs (lo := 0) (hi := 239) (by decide)
  have b3 : SyH wl N T X (m_si h1 (t + 4) b r1) (w_si w1 29 b s1) k1 f1 := (a3.si (by omega)).ws (by decide)
  obtain ⟨r2, s2, h2, w2, k2, f2, d1, d2, d3, d4, d5, d7, -⟩ := numL (G := G) hl20 b3 (lo := r1) (lo' := s1) (hi := 239) (fun z => ⟨(a7 z).2.1, i_lo (a7 z).2.2.1⟩)
  have e3 : SyH wl N T X (m_si h2 (t + 5) b r2) (w_si w2 30 b s2) k2 f2 := (d3.si (by omega)).ws (by decide)
  obtain ⟨r3, s3, h3, w3, k3, f3, v1, v2, v3, v4, v5, v6, v7, -⟩ := numH (G := G) hl20 e3 (lo := 1) (hi := 4) (by decide)
  have i1 : ∀ a, a ≠ X + 1 → m_i h1 a = m_i h a := fun a ha => (a4.2.2.2 a ha).1
  have i2 : ∀ q, q ≠ X + 1 → m_i h2 q = m_i (m_si h1 (t + 4) b r1) q := fun q ha => (d4.2.2.2 q ha).1
  have i3 : ∀ q, q ≠ X + 1 → m_i h3 q = m_i (m_si h2 (t + 5) b r2) q := fun q ha => (v4.2.2.2 q ha).1
  have e7 : m_i h1 t 10 = nI b := by rw [i1 t (by omega)]; exact c9
  have e7' : m_i h2 t 10 = nI b := by rw [i2 t (by omega), m_i_sb (by omega)]; exact e7
  have e7'' : m_i h3 t 10 = nI b := by rw [i3 t (by omega), m_i_sb (by omega)]; exact e7'
  have g3 : SyH wl N T X (m_si (m_si h3 (t + 6) b r3) t 10 (nI (b + 1))) (w_si (w_si w3 31 b s3) 20 9 (nI (b + 1))) k3 f3 := (((v3.si (by omega)).si (by omega)).ws (by decide)).ws (by decide)
  have hF : Fr (STn X t) h (m_si (m_si h3 (t + 6) b r3) t 10 (nI (b + 1))) := ((((((Fr.tn1 a4).tr (Fr.tns (by omega))).tr (Fr.tn1 d4)).tr (Fr.tns (by omega))).tr (Fr.tn1 v4)).tr (Fr.tns (by omega))).tr (Fr.tns (by omega))
  have hi : ∀ q, q ≠ X + 1 → q ≠ t → q ≠ t + 4 → q ≠ t + 5 → q ≠ t + 6 → m_i (m_si (m_si h3 (t + 6) b r3) t 10 (nI (b + 1))) q = m_i h q := fun q q1 q2 q3 q4 q5 => by rw [m_i_sb q2, m_i_sb q5, i3 q q1, m_i_sb q4, i2 q q1, m_i_sb q3, i1 q q1]
  have ht : ∀ j, m_i (m_si (m_si h3 (t + 6) b r3) t 10 (nI (b + 1))) t j = if j = 10 then nI (b + 1) else m_i h t j := fun j => by
    rw [m_i_si, m_i_sb (by omega), i3 t (by omega), m_i_sb (by omega), i2 t (by omega), m_i_sb (by omega), i1 t (by omega)]; simp
  have ht4 : ∀ j, m_i (m_si (m_si h3 (t + 6) b r3) t 10 (nI (b + 1))) (t + 4) j = if j = b then r1 else m_i h (t + 4) j := fun j => by
    rw [m_i_sb (by omega), m_i_sb (by omega), i3 (t + 4) (by omega), m_i_sb (by omega), i2 (t + 4) (by omega), m_i_si, i1 (t + 4) (by omega)]; simp
  have ht5 : ∀ j, m_i (m_si (m_si h3 (t + 6) b r3) t 10 (nI (b + 1))) (t + 5) j = if j = b then r2 else m_i h (t + 5) j := fun j => by
    rw [m_i_sb (by omega), m_i_sb (by omega), i3 (t + 5) (by omega), m_i_si, i2 (t + 5) (by omega), m_i_sb (by omega), i1 (t + 5) (by omega)]; simp
  have ht6 : ∀ j, m_i (m_si (m_si h3 (t + 6) b r3) t 10 (nI (b + 1))) (t + 6) j = if j = b then r3 else m_i h (t + 6) j := fun j => by
    rw [m_i_sb (by omega), m_i_si, i3 (t + 6) (by omega), m_i_sb (by omega), i2 (t + 6) (by omega), m_i_sb (by omega), i1 (t + 6) (by omega)]; simp
  have hw : ∀ r, r ≠ 0 → r ≠ 20 → r ≠ 29 → r ≠ 30 → r ≠ 31 → (w_si (w_si w3 31 b s3) 20 9 (nI (b + 1))).1 r = w.1 r := fun r q1 q2 q3 q4 q5 => by rw [w_si_r q2, w_si_r q5, v5.1 r q1, w_si_r q4, d5.1 r q1, w_si_r q3, a5.1 r q1]
  have hw20 : ∀ j, (w_si (w_si w3 31 b s3) 20 9 (nI (b + 1))).1 20 j = if j = 9 then nI (b + 1) else w.1 20 j := fun j => by
    rw [w_si_e, w_si_r (by decide), v5.1 20 (by decide), w_si_r (by decide), d5.1 20 (by decide), w_si_r (by decide), a5.1 20 (by decide)]; simp
  have hw29 : ∀ j, (w_si (w_si w3 31 b s3) 20 9 (nI (b + 1))).1 29 j = if j = b then s1 else w.1 29 j := fun j => by
    rw [w_si_r (by decide), w_si_r (by decide), v5.1 29 (by decide), w_si_r (by decide), d5.1 29 (by decide), w_si_e, a5.1 29 (by decide)]; simp
  have hw30 : ∀ j, (w_si (w_si w3 31 b s3) 20 9 (nI (b + 1))).1 30 j = if j = b then s2 else w.1 30 j := fun j => by
    rw [w_si_r (by decide), w_si_r (by decide), v5.1 30 (by decide), w_si_e, d5.1 30 (by decide), w_si_r (by decide), a5.1 30 (by decide)]; simp
  have hw31 : ∀ j, (w_si (w_si w3 31 b s3) 20 9 (nI (b + 1))).1 31 j = if j = b then s3 else w.1 31 j := fun j => by
    rw [w_si_r (by decide), w_si_e, v5.1 31 (by decide), w_si_r (by decide), d5.1 31 (by decide), w_si_r (by decide), a5.1 31 (by decide)]; simp
  have hw0 : ∀ j, j ≠ 33 → j ≠ 34 → (w_si (w_si w3 31 b s3) 20 9 (nI (b + 1))).1 0 j = w.1 0 j := fun j q1 q2 => by rw [w_si_r (by decide), w_si_r (by decide), v5.2 j q1 q2, w_si_r (by decide), d5.2 j q1 q2, w_si_r (by decide), a5.2 j q1 q2]
  have ca : (nI b).toNatClampNeg = b := nI_clamp (by omega)
  have xa : ∀ (h0 : AH) q, m_t h0 q = .inr (.int, 5) → ixb h0 q .int (nI b) = true := fun h0 q z => ixb_e z ha5 (by decide)
  refine ⟨_, _, k3, f3, ?_, ?_, g3, hF, fun r hr => hw r (by omega) (by omega) (by omega) (by omega) (by omega), hw0, fun z => ⟨?_, fun y => by rw [hw20]; exact y.resolve_right id⟩⟩
  · obtain ⟨p1, p2, p3⟩ := rd6 hs.1
    obtain ⟨q1, q2, q3⟩ := rd6 b3.1
    obtain ⟨o1, o2, o3⟩ := rd6 e3.1
    have hT1 : TrS h1 t := hT.fr' a4
    have hT2 : TrS h2 t := by unfold TrS at hT1 ⊢; rw [d4.1, d4.2.1, m_t_si, m_r_si]; exact hT1
    have hT3 : TrS h3 t := by unfold TrS at hT2 ⊢; rw [v4.1, v4.2.1, m_t_si, m_r_si]; exact hT2
    unfold f_X10_readCold
    rw [u_ck p1, p2, u_ob, u_ck p3, a1, u_cb, u_ck hT1.1, hT1.2.2.2.2.1, u_ob, e7, u_ck (xa _ _ hT1.2.2.2.2.2.2.2.2.1.2.2.1), u_nn, ca, m_r_si, hT1.2.2.2.2.2.1, u_ob, u_ck q1]
    rw [show m_r h1 (X + 6) 0 = some (X + 1) from q2, u_ob, u_ck q3, d1, u_cb, m_i_sb (show t ≠ t + 4 by omega), e7, u_ck (xa _ _ hT2.2.2.2.2.2.2.2.2.1.2.2.2.1), u_nn, ca, m_t_si, u_ck hT2.1, m_r_si, hT2.2.2.2.2.2.2.1, u_ob, show m_t h2 (X + 6) = .inl 10 from o1, u_ck rfl, show m_r h2 (X + 6) 0 = some (X + 1) from o2, u_ob, show m_t h2 (X + 1) = .inl 8 from o3, u_ck rfl, v1, u_cb, m_i_sb (show t ≠ t + 5 by omega), e7', u_ck (xa _ _ hT3.2.2.2.2.2.2.2.2.1.2.2.2.2), u_nn, ca, m_t_si, u_ck hT3.1, m_i_sb (show t ≠ t + 6 by omega), e7'', nI_1, u_nn]
  · have xx : ixn 5 (nI b) = true := u_ixn ha5 (by decide)
    have w8 : w3.1 20 9 = nI b := by rw [v5.1 20 (by decide), w_si_r (by decide), d5.1 20 (by decide), w_si_r (by decide), a5.1 20 (by decide)]; exact c6
    unfold p_X12_trainPart p_X12_readsCold
    rw [if_neg hy.1, if_neg hy.2.1, if_neg hy.2.2.1, if_neg hy.2.2.2.1, if_neg hy.2.2.2.2.1, if_neg hy.2.2.2.2.2, u_ck ix_10_9, tn_9, c6, u_nn, a2, u_cw, u_ck xx, u_nn, ca, u_ck xx, w_si_s, d2, u_cw, u_ck xx, u_nn, v2, u_cw, u_ck xx, u_nn, u_ck ix_10_9, u_ck ix_10_9, w_si_r (by decide), w8, nI_1, u_nn, u_ob]
  · obtain ⟨z2, y3, lo3, hi3⟩ := v7 z
    obtain ⟨z1, y2, lo2, hi2⟩ := d7 z2
    obtain ⟨-, y1, lo1, hi1⟩ := a7 z1
    subst y1 y2 y3
    refine ⟨⟨?_, ?_, ?_, ?_, ?_, ?_, ?_, ?_, ?_, ?_⟩, n, a, b + 1, ⟨c1, c2, by omega, ?_, ?_, ?_, ?_, ?_, ?_⟩, ⟨?_, fun i hi' => ?_, fun i p1 p2 => ?_⟩, ⟨fun i hi' => ?_, fun i hi' => ?_⟩, fun i hi' => ?_⟩
    · rw [ht, hw20]; exact s.1
    · rw [hw20]; exact s.2.1
    · rw [ht, hw20]; exact s.2.2.1
    · rw [hw20]; exact s.2.2.2.1
    · rw [ht, hw20]; exact s.2.2.2.2.1
    · rw [hw20]; exact s.2.2.2.2.2.1
    · rw [ht, hw20]; exact s.2.2.2.2.2.2.1
    · rw [hw20]; exact s.2.2.2.2.2.2.2.1
    · rw [hi _ (by omega) (by omega) (by omega) (by omega) (by omega), hw20]; exact s.2.2.2.2.2.2.2.2.1
    · rw [hw20]; exact s.2.2.2.2.2.2.2.2.2
    · rw [hw20]; exact c4
    · rw [hw20]; exact c5
    · rw [hw20]; rfl
    · rw [ht]; exact c7
    · rw [ht]; exact c8
    · rw [ht]; rfl
    · rw [hw20]; exact g.1
    · rw [hi _ (by omega) (by omega) (by omega) (by omega) (by omega)]; unfold fr20; rw [hw20]; exact g.2.1 i hi'
    · rw [hi _ (by omega) (by omega) (by omega) (by omega) (by omega)]; exact g.2.2 i p1 p2
    · rw [hi _ (by omega) (by omega) (by omega) (by omega) (by omega), hi _ (by omega) (by omega) (by omega) (by omega) (by omega), hw 27 (by decide) (by decide) (by decide) (by decide) (by decide), hw 28 (by decide) (by decide) (by decide) (by decide) (by decide)]; exact u.1 i hi'
    · rw [ht4, ht5, ht6, hw29, hw30, hw31]
      by_cases y : i = b
      · rw [if_pos y, if_pos y, if_pos y, if_pos y, if_pos y, if_pos y]
        exact ⟨rfl, rfl, rfl, bd_r lo3 hi3 rfl rfl⟩
      · rw [if_neg y, if_neg y, if_neg y, if_neg y, if_neg y, if_neg y]; exact u.2 i (by omega)
    · have := q i hi'
      unfold TDq at this ⊢
      rw [hi _ (by omega) (by omega) (by omega) (by omega) (by omega), hw 21 (by decide) (by decide) (by decide) (by decide) (by decide), hw 22 (by decide) (by decide) (by decide) (by decide) (by decide), hw 23 (by decide) (by decide) (by decide) (by decide) (by decide), hw 24 (by decide) (by decide) (by decide) (by decide) (by decide), hw 25 (by decide) (by decide) (by decide) (by decide) (by decide), hw 26 (by decide) (by decide) (by decide) (by decide) (by decide)]; exact this
theorem q_hasP {n : Nat} (ht : m_t h t = .inl 9) (h5 : m_i h t 5 = nI n) (hn : n ≤ 8) (x : Int32) : f_X9_hasPerson G t x h = some (if 0 ≤ x ∧ x ≤ nI n - 1 then 1 else 0, h) := by
  have i1 : (1 : Int32).toInt = 1 := rfl
  have hi : (nI n).toInt = n := nI_toInt (by omega)
  have h2 : (nI n - 1).toInt = (n : Int) - 1 := by rw [I_sub (by rw [hi, i1]; omega) (by rw [hi, i1]; omega), hi, i1]
  unfold f_X9_hasPerson
  rw [u_ck ht, h5, rng_le (N := nI n - 1) (by omega)]
  split <;> rfl
theorem per_in {n : Nat} (hn : n ≤ 8) {x : Int32} (hx : 0 ≤ x ∧ x ≤ nI n - 1) : ∃ q, q < n ∧ x = nI q := by
  have i1 : (1 : Int32).toInt = 1 := rfl
  have i0 : (0 : Int32).toInt = 0 := rfl
  have hi : (nI n).toInt = n := nI_toInt (by omega)
  have h2 : (nI n - 1).toInt = (n : Int) - 1 := by rw [I_sub (by rw [hi, i1]; omega) (by rw [hi, i1]; omega), hi, i1]
  have a := hx.1
  have b := hx.2
  rw [I_le] at a b
  obtain ⟨q, h3, h4⟩ := bd_nI (x := x) (b := 8) ⟨by omega, by omega⟩
  have : x.toInt = q := by rw [h4]; exact nI_toInt (by omega)
  exact ⟨q, by omega, h4⟩
/-- fronts: a bit more -/
theorem fr_or {F q : Nat} (hF : F < 256) (hq : q < 8) : nI F ||| ((1 : Int32) <<< (nI q &&& 31)) = nI (F ||| 2 ^ q) ∧ F ||| 2 ^ q < 256 := ⟨or_e hq, or_lt hF hq⟩
theorem cl_front (hl20 : wl.length ≤ 20) (hs : SyH wl N T X h w k 0) (hX : X + 122 ≤ t) (hT : TrS h t) (hd : TD h X t w) : Cls False wl N T X t h w (f_X10_readFront G (X + 6) t h) (p_X12_trainPart G 3 w) := by
  obtain ⟨s, n, a, b, c, g, u, q⟩ := hd
  obtain ⟨c1, c2, c3, c4, c5, c6, c7, c8, c9⟩ := c
  obtain ⟨r1, s1, h1, w1, k1, f1, a1, a2, a3, a4, a5, a6, a7, a8⟩ := numH (G := G) hl20 hs (lo := 0) (hi := nI n - 1) (by decide)
  have i1 : ∀ a, a ≠ X + 1 → m_i h1 a = m_i h a := fun a ha => (a4.2.2.2 a ha).1
  have hT1 : TrS h1 t := hT.fr' a4
  have e5 : m_i h1 t 5 = nI n := by rw [i1 t (by omega)]; exact c7
  obtain ⟨p1, p2, p3⟩ := rd6 hs.1
  obtain ⟨Fn, hFn, eFn⟩ := g.1
  have w7 : w1.1 20 7 = nI Fn := by rw [a5.1 20 (by decide)]; exact eFn
  have pr : p_X12_trainPart G 3 w = some (w_si w1 20 7 (nI Fn ||| if f1 = 0 then (1 : Int32) <<< (s1 &&& 31) else 0)) := by
    have e34 : w1.1 0 34 = f1 := a3.2.2.2.2.2.1
    unfold p_X12_trainPart p_X12_onePerson
    rw [if_neg (by decide), if_neg (by decide), if_neg (by decide), if_pos rfl, u_ck ix_10_6, tn_6, c4, a2, u_cw, u_cw, u_ck ix_10_7, tn_7, w7, u_nn, e34]
    by_cases z : f1 = 0
    · rw [if_pos z, if_pos z]; dsimp only; rw [u_ck ix_10_7, u_nn]
    · rw [if_neg z, if_neg z]; dsimp only; rw [u_ck ix_10_7, u_nn]
  have hw : ∀ y r, r ≠ 0 → r ≠ 20 → (w_si w1 20 7 y).1 r = w.1 r := fun y r q1 q2 => by rw [w_si_r q2, a5.1 r q1]
  have hw0 : ∀ y j, j ≠ 33 → j ≠ 34 → (w_si w1 20 7 y).1 0 j = w.1 0 j := fun y j q1 q2 => by rw [w_si_r (by decide), a5.2 j q1 q2]
  have hw20 : ∀ y j, (w_si w1 20 7 y).1 20 j = if j = 7 then y else w.1 20 j := fun y j => by rw [w_si_e, a5.1 20 (by decide)]; simp
  by_cases z : f1 = 0
  · obtain ⟨-, y1, lo1, hi1⟩ := a7 z
    subst y1
    obtain ⟨qq, hq1, hq2⟩ := per_in c1 ⟨lo1, hi1⟩
    have hq8 : qq < 8 := by omega
    obtain ⟨fo1, fo2⟩ := fr_or hFn hq8
    have rq := hT1.2.2.2.2.2.2.2.2.2 qq hq8
    rw [if_pos z, hq2, fo1] at pr
    refine ⟨m_si h1 (t + 7 + qq) 6 1, _, k1, f1, ?_, pr, (a3.si (by omega)).ws (by decide), (Fr.tn1 a4).tr (Fr.tns (by omega)), fun r hr => hw _ r (by omega) (by omega), hw0 _, fun _ => ⟨?_, fun y => by rw [hw20]; exact y.resolve_right id⟩⟩
    · unfold f_X10_readFront
      rw [u_ck p1, p2, u_ob, u_ck hT.1, u_ck p3, c7, a1, u_cb, u_ck hT1.1, q_hasP hT1.1 e5 c1, u_cb, if_pos (show (0 : Int32) ≤ r1 ∧ r1 ≤ nI n - 1 from ⟨lo1, hi1⟩), if_neg n10, u_ck hT1.1, hT1.2.1, u_ob, hq2, u_ck (ixb_e hT1.2.2.2.2.2.2.2.1 hq8 (by decide)), nI_clamp (by omega), rq.1, u_ob, u_ck rq.2, u_nn]
    · have hi : ∀ q, q ≠ X + 1 → q ≠ t + 7 + qq → m_i (m_si h1 (t + 7 + qq) 6 1) q = m_i h q := fun q q1 q2 => by rw [m_i_sb q2, i1 q q1]
      have hj : ∀ j, j ≠ 6 → m_i (m_si h1 (t + 7 + qq) 6 1) (t + 7 + qq) j = m_i h (t + 7 + qq) j := fun j q1 => by rw [m_i_sj q1, i1 _ (by omega)]
      have hk : ∀ i j, i < 8 → j ≠ 6 → m_i (m_si h1 (t + 7 + qq) 6 1) (t + 7 + i) j = m_i h (t + 7 + i) j := fun i j q1 q2 => by
        by_cases y : i = qq
        · subst y; exact hj j q2
        · rw [hi _ (by omega) (by omega)]
      refine ⟨⟨?_, ?_, ?_, ?_, ?_, ?_, ?_, ?_, ?_, ?_⟩, n, a, b, ⟨c1, c2, c3, ?_, ?_, ?_, ?_, ?_, ?_⟩, ⟨⟨Fn ||| 2 ^ qq, fo2, by rw [hw20]; rfl⟩, fun i hi' => ?_, fun i p1 p2 => ?_⟩, ⟨fun i hi' => ?_, fun i hi' => ?_⟩, fun i hi' => ?_⟩
      · rw [hi _ (by omega) (by omega), hw20]; exact s.1
      · rw [hw20]; exact s.2.1
      · rw [hi _ (by omega) (by omega), hw20]; exact s.2.2.1
      · rw [hw20]; exact s.2.2.2.1
      · rw [hi _ (by omega) (by omega), hw20]; exact s.2.2.2.2.1
      · rw [hw20]; exact s.2.2.2.2.2.1
      · rw [hi _ (by omega) (by omega), hw20]; exact s.2.2.2.2.2.2.1
      · rw [hw20]; exact s.2.2.2.2.2.2.2.1
      · rw [hi _ (by omega) (by omega), hw20]; exact s.2.2.2.2.2.2.2.2.1
      · rw [hw20]; exact s.2.2.2.2.2.2.2.2.2
      · rw [hw20]; exact c4
      · rw [hw20]; exact c5
      · rw [hw20]; exact c6
      · rw [hi _ (by omega) (by omega)]; exact c7
      · rw [hi _ (by omega) (by omega)]; exact c8
      · rw [hi _ (by omega) (by omega)]; exact c9
      · unfold fr20
        rw [hw20, if_pos rfl, bit24 (by omega) (by omega), Nat.testBit_or, Nat.testBit_two_pow]
        by_cases y : i = qq
        · subst y; rw [m_i_ss, decide_eq_true rfl, Bool.or_true]; rfl
        · have := g.2.1 i hi'
          unfold fr20 at this
          rw [eFn, bit24 (by omega) (by omega)] at this
          rw [hi _ (by omega) (by omega), decide_eq_false (fun e => y e.symm), Bool.or_false]; exact this
      · rw [hk i 5 (by omega) (by decide)]; exact g.2.2 i p1 p2
      · rw [hi _ (by omega) (by omega), hi _ (by omega) (by omega), hw _ 27 (by decide) (by decide), hw _ 28 (by decide) (by decide)]; exact u.1 i hi'
      · rw [hi _ (by omega) (by omega), hi _ (by omega) (by omega), hi _ (by omega) (by omega), hw _ 29 (by decide) (by decide), hw _ 30 (by decide) (by decide), hw _ 31 (by decide) (by decide)]; exact u.2 i hi'
      · have := q i hi'
        unfold TDq at this ⊢
        rw [hk i 0 (by omega) (by decide), hk i 1 (by omega) (by decide), hk i 2 (by omega) (by decide), hk i 3 (by omega) (by decide), hk i 4 (by omega) (by decide), hk i 5 (by omega) (by decide), hw _ 21 (by decide) (by decide), hw _ 22 (by decide) (by decide), hw _ 23 (by decide) (by decide), hw _ 24 (by decide) (by decide), hw _ 25 (by decide) (by decide), hw _ 26 (by decide) (by decide)]; exact this
  · have er := a8 z
    refine ⟨h1, _, k1, f1, ?_, pr, a3.ws (by decide), Fr.tn1 a4, fun r hr => hw _ r (by omega) (by omega), hw0 _, fun y => absurd y z⟩
    unfold f_X10_readFront
    rw [u_ck p1, p2, u_ob, u_ck hT.1, u_ck p3, c7, a1, u_cb, u_ck hT1.1, q_hasP hT1.1 e5 c1, u_cb, er, if_neg (show ¬ ((0 : Int32) ≤ -1 ∧ (-1 : Int32) ≤ nI n - 1) from fun q => absurd q.1 (by decide)), if_pos rfl]
end
