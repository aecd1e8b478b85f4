/-! PURE 99k: the clauses of a train: says, person. -/
section
variable {G : GG} {X t N k : Nat} {T : Nat → Nat} {h h' h1 h2 : AH} {w w' w1 w2 wr wr' : MS} {wl : List (List Nat)} {f : Int32}
theorem cl_says (hl20 : wl.length ≤ 20) (hs : SyH wl N T X h w k 0) (hX : X + 122 ≤ t) (hT : TrS h t) (hd : TD h X t w) : Cls False wl N T X t h w (f_X10_readSays G (X + 6) t h) (p_X12_trainPart G 4 w) := by
  obtain ⟨s, n, a, b, c, g, u, q⟩ := hd
  obtain ⟨c1, c2, c3, c4, c5, c6, c7, c8, c9⟩ := c
  obtain ⟨r1, s1, h1, w1, k1, f1, a1, a2, a3, a4, a5, a6, a7, a8⟩ := numH (G := G) hl20 hs (lo := 0) (hi := nI n - 1) (by decide)
  obtain ⟨r2, s2, h2, w2, k2, f2, d1, d2, d3, d4, d5, d6, d7, d8⟩ := numH (G := G) hl20 a3 (lo := 0) (hi := 18) (by decide)
  have F2 : Fr (fun a => a = X + 1) h h2 := a4.tr d4
  have i2 : ∀ a, a ≠ X + 1 → m_i h2 a = m_i h a := fun a ha => (F2.2.2.2 a ha).1
  have hT1 : TrS h1 t := hT.fr' a4
  have hT2 : TrS h2 t := hT.fr' F2
  have e5 : m_i h2 t 5 = nI n := by rw [i2 t (by omega)]; exact c7
  obtain ⟨p1, p2, p3⟩ := rd6 hs.1
  obtain ⟨q1, q2, q3⟩ := rd6 a3.1
  have e34 : w2.1 0 34 = f2 := d3.2.2.2.2.2.1
  have W2 : FrW w w2 := a5.tr d5
  have cl : f_X10_readSays G (X + 6) t h = (if (if 0 ≤ r1 ∧ r1 ≤ nI n - 1 then (1 : Int32) else 0) = 0 then some h2 else ck (m_t h2 t = .inl 9) <| ob (m_r h2 t 6) fun b20 => ck (ixb h2 b20 (.object RX5) r1 = true) <| ob (m_r h2 b20 r1.toNatClampNeg) fun b23 => ck (m_t h2 b23 = .inl 5) <| nn (m_si h2 b23 5 (r2 - (9 : Int32))) fun h25 => some h25) := by
    unfold f_X10_readSays
    rw [u_ck p1, p2, u_ob, u_ck hT.1, u_ck p3, c7, a1, u_cb, u_ck q1, q2, u_ob, u_ck q3, d1, u_cb, u_ck hT2.1, q_hasP hT2.1 e5 c1, u_cb]
  have rf : p_X12_trainPart G 4 w = (if f2 = 0 then (ck (ixn 8 s1 = true) <| nn (w_si w2 26 s1.toNatClampNeg (s2 - (9 : Int32))) fun w47 => some w47) else some w2) := by
    unfold p_X12_trainPart p_X12_onePerson
    rw [if_neg (by decide), if_neg (by decide), if_neg (by decide), if_neg (by decide), if_pos rfl, u_ck ix_10_6, tn_6, c4, a2, u_cw, u_cw, d2, u_cw, e34]
  by_cases z1 : f1 = 0
  · obtain ⟨-, y1, lo1, hi1⟩ := a7 z1
    subst y1
    obtain ⟨qq, hq1, hq2⟩ := per_in c1 ⟨lo1, hi1⟩
    have hq8 : qq < 8 := by omega
    have rq := hT2.2.2.2.2.2.2.2.2.2 qq hq8
    rw [if_pos (show (0 : Int32) ≤ r1 ∧ r1 ≤ nI n - 1 from ⟨lo1, hi1⟩), if_neg n10, u_ck hT2.1, hT2.2.1, u_ob, hq2, u_ck (ixb_e hT2.2.2.2.2.2.2.2.1 hq8 (by decide)), nI_clamp (by omega), rq.1, u_ob, u_ck rq.2, u_nn] at cl
    by_cases z2 : f2 = 0
    · obtain ⟨-, y2, lo2, hi2⟩ := d7 z2
      subst y2
      rw [if_pos z2, hq2, u_ck (u_ixn hq8 (by decide)), nI_clamp (by omega), u_nn] at rf
      have hw : ∀ r, r ≠ 0 → r ≠ 26 → (w_si w2 26 qq (r2 - 9)).1 r = w.1 r := fun r e1 e2 => by rw [w_si_r e2, W2.1 r e1]
      have hw0 : ∀ j, j ≠ 33 → j ≠ 34 → (w_si w2 26 qq (r2 - 9)).1 0 j = w.1 0 j := fun j e1 e2 => by rw [w_si_r (by decide), W2.2 j e1 e2]
      have hw26 : ∀ j, (w_si w2 26 qq (r2 - 9)).1 26 j = if j = qq then r2 - 9 else w.1 26 j := fun j => by rw [w_si_e, W2.1 26 (by decide)]; simp
      have hi : ∀ q, q ≠ X + 1 → q ≠ t + 7 + qq → m_i (m_si h2 (t + 7 + qq) 5 (r2 - 9)) q = m_i h q := fun q e1 e2 => by rw [m_i_sb e2, i2 q e1]
      have hk : ∀ i j, i < 8 → j ≠ 5 → m_i (m_si h2 (t + 7 + qq) 5 (r2 - 9)) (t + 7 + i) j = m_i h (t + 7 + i) j := fun i j e1 e2 => by
        by_cases y : i = qq
        · subst y; rw [m_i_sj e2, i2 _ (by omega)]
        · rw [hi _ (by omega) (by omega)]
      have h20 : (w_si w2 26 qq (r2 - 9)).1 20 = w.1 20 := hw 20 (by decide) (by decide)
      refine ⟨m_si h2 (t + 7 + qq) 5 (r2 - 9), w_si w2 26 qq (r2 - 9), k2, f2, cl, rf, (d3.si (by omega)).ws (by decide), (Fr.tn1 F2).tr (Fr.tns (by omega)), fun r hr => hw r (by omega) (by omega), hw0, fun _ => ⟨⟨?_, n, a, b, ⟨c1, c2, c3, ?_, ?_, ?_, ?_, ?_, ?_⟩, ⟨?_, fun i hi' => ?_, fun i p1 p2 => ?_⟩, ⟨fun i hi' => ?_, fun i hi' => ?_⟩, fun i hi' => ?_⟩, fun y => by rw [h20]; exact y.resolve_right id⟩⟩
      · unfold TDs at s ⊢; rw [hi _ (by omega) (by omega), hi _ (by omega) (by omega), h20]; exact s
      · rw [h20]; exact c4
      · rw [h20]; exact c5
      · rw [h20]; exact c6
      · rw [hi _ (by omega) (by omega)]; exact c7
      · rw [hi _ (by omega) (by omega)]; exact c8
      · rw [hi _ (by omega) (by omega)]; exact c9
      · rw [h20]; exact g.1
      · unfold fr20; rw [hk i 6 (by omega) (by decide), h20]; exact g.2.1 i hi'
      · rw [hi _ (by omega) (by omega)]; exact g.2.2 i p1 p2
      · rw [hi _ (by omega) (by omega), hi _ (by omega) (by omega), hw 27 (by decide) (by decide), hw 28 (by decide) (by decide)]; exact u.1 i hi'
      · rw [hi _ (by omega) (by omega), hi _ (by omega) (by omega), hi _ (by omega) (by omega), hw 29 (by decide) (by decide), hw 30 (by decide) (by decide), hw 31 (by decide) (by decide)]; exact u.2 i hi'
      · have := q i hi'
        unfold TDq at this ⊢
        rw [hk i 0 (by omega) (by decide), hk i 1 (by omega) (by decide), hk i 2 (by omega) (by decide), hk i 3 (by omega) (by decide), hk i 4 (by omega) (by decide), hw 21 (by decide) (by decide), hw 22 (by decide) (by decide), hw 23 (by decide) (by decide), hw 24 (by decide) (by decide), hw 25 (by decide) (by decide), hw26]
        by_cases y : i = qq
        · subst y
          rw [if_pos rfl, m_i_ss]
          refine ⟨⟨this.1.1, this.1.2.1, this.1.2.2.1, this.1.2.2.2.1, this.1.2.2.2.2.1, rfl⟩, this.2.1, this.2.2.1, this.2.2.2.1, this.2.2.2.2.1, this.2.2.2.2.2.1, this.2.2.2.2.2.2.1, ?_⟩
          rw [I_le] at lo2 hi2
          have i0 : (0 : Int32).toInt = 0 := rfl
          have i9 : (9 : Int32).toInt = 9 := rfl
          have i18 : (18 : Int32).toInt = 18 := rfl
          unfold bd
          rw [I_sub (by omega) (by omega), i9]; omega
        · rw [if_neg y, hi _ (by omega) (by omega)]; exact this
    · rw [if_neg z2] at rf
      exact ⟨m_si h2 (t + 7 + qq) 5 (r2 - 9), w2, k2, f2, cl, rf, d3.si (by omega), (Fr.tn1 F2).tr (Fr.tns (by omega)), fun r hr => W2.1 r (by omega), W2.2, fun y => absurd y z2⟩
  · have er := a8 z1
    have z2 : f2 ≠ 0 := by rw [d6 z1]; exact z1
    rw [er, if_neg (show ¬ ((0 : Int32) ≤ -1 ∧ (-1 : Int32) ≤ nI n - 1) from fun q => absurd q.1 (by decide)), if_pos rfl] at cl
    rw [if_neg z2] at rf
    exact ⟨h2, w2, k2, f2, cl, rf, d3, Fr.tn1 F2, fun r hr => W2.1 r (by omega), W2.2, fun y => absurd y z2⟩
theorem cl_person (hl20 : wl.length ≤ 20) (hs : SyH wl N T X h w k 0) (hX : X + 122 ≤ t) (hT : TrS h t) (hd : TD h X t w) (h8 : ¬ w.1 20 6 = 8) : Cls False wl N T X t h w (f_X10_readPerson G (X + 6) t h) (p_X12_trainPart G 2 w) := by
  obtain ⟨s, n, a, b, c, g, u, q⟩ := hd
  obtain ⟨c1, c2, c3, c4, c5, c6, c7, c8, c9⟩ := c
  have n8 : n < 8 := by
    rcases Nat.lt_or_ge n 8 with z | z
    · exact z
    · exact absurd (by rw [c4, show n = 8 by omega]; rfl) h8
  generalize hc : t + 7 + n = cc
  have hcc : X + 129 ≤ cc ∧ t + 7 ≤ cc ∧ cc < t + 15 := by omega
  obtain ⟨r1, s1, h1, w1, k1, f1, a1, a2, a3, a4, a5, -, a7, -⟩ := numH (G := G) hl20 hs (lo := 0) (hi := 7) (by decide)
  have b3 : SyH wl N T X (m_si h1 cc 0 r1) (w_si w1 21 n s1) k1 f1 := (a3.si (by omega)).ws (by decide)
  obtain ⟨r2, s2, h2, w2, k2, f2, d1, d2, d3, d4, d5, -, d7, -⟩ := numH (G := G) hl20 b3 (lo := 0) (hi := 239) (by decide)
  have e3 : SyH wl N T X (m_si h2 cc 1 r2) (w_si w2 22 n s2) k2 f2 := (d3.si (by omega)).ws (by decide)
  have lw3 : f2 = 0 → r2 + 1 = s2 + 1 ∧ 0 ≤ (r2 + 1).toInt := fun z => by
    obtain ⟨-, y, y1, y2⟩ := d7 z
    refine ⟨by rw [y], ?_⟩
    rw [I_le] at y1 y2
    have i0 : (0 : Int32).toInt = 0 := rfl
    have i1 : (1 : Int32).toInt = 1 := rfl
    have i239 : (239 : Int32).toInt = 239 := rfl
    rw [I_add (by omega) (by omega), i1]; omega
  obtain ⟨r3, s3, h3, w3, k3, f3, v1, v2, v3, v4, v5, v7, -⟩ := numL (G := G) hl20 e3 (lo := r2 + 1) (lo' := s2 + 1) (hi := 240) lw3
  have x3 : SyH wl N T X (m_si h3 cc 2 r3) (w_si w3 23 n s3) k3 f3 := (v3.si (by omega)).ws (by decide)
  obtain ⟨r4, s4, h4, w4, k4, f4, o1, o2, o3, o4, o5, -, o7, -⟩ := numH (G := G) hl20 x3 (lo := 0) (hi := 60) (by decide)
  have y3 : SyH wl N T X (m_si h4 cc 3 r4) (w_si w4 24 n s4) k4 f4 := (o3.si (by omega)).ws (by decide)
  obtain ⟨r5, s5, h5, w5, k5, f5, j1, j2, j3, j4, j5, -, j7, -⟩ := numH (G := G) hl20 y3 (lo := 0) (hi := 20) (by decide)
  have z3 : SyH wl N T X (m_si (m_si h5 cc 4 r5) t 5 (nI (n + 1))) (w_si (w_si (w_si w5 25 n s5) 26 n 0) 20 6 (nI (n + 1))) k5 f5 := ((((j3.si (by omega)).si (by omega)).ws (by decide)).ws (by decide)).ws (by decide)
  have I1 : ∀ a, a ≠ X + 1 → m_i h1 a = m_i h a := fun a ha => (a4.2.2.2 a ha).1
  have I2 : ∀ a, a ≠ X + 1 → m_i h2 a = m_i (m_si h1 cc 0 r1) a := fun a ha => (d4.2.2.2 a ha).1
  have I3 : ∀ a, a ≠ X + 1 → m_i h3 a = m_i (m_si h2 cc 1 r2) a := fun a ha => (v4.2.2.2 a ha).1
  have I4 : ∀ a, a ≠ X + 1 → m_i h4 a = m_i (m_si h3 cc 2 r3) a := fun a ha => (o4.2.2.2 a ha).1
  have I5 : ∀ a, a ≠ X + 1 → m_i h5 a = m_i (m_si h4 cc 3 r4) a := fun a ha => (j4.2.2.2 a ha).1
  have J5 : ∀ q, q ≠ X + 1 → q ≠ cc → m_i h5 q = m_i h q := fun q q1 q2 => by rw [I5 q q1, m_i_sb q2, I4 q q1, m_i_sb q2, I3 q q1, m_i_sb q2, I2 q q1, m_i_sb q2, I1 q q1]
  have hF : Fr (STn X t) h (m_si (m_si h5 cc 4 r5) t 5 (nI (n + 1))) := ((((((((((Fr.tn1 a4).tr (Fr.tns (by omega))).tr (Fr.tn1 d4)).tr (Fr.tns (by omega))).tr (Fr.tn1 v4)).tr (Fr.tns (by omega))).tr (Fr.tn1 o4)).tr (Fr.tns (by omega))).tr (Fr.tn1 j4)).tr (Fr.tns (by omega))).tr (Fr.tns (by omega))
  have hi : ∀ q, q ≠ X + 1 → q ≠ t → q ≠ cc → m_i (m_si (m_si h5 cc 4 r5) t 5 (nI (n + 1))) q = m_i h q := fun q q1 q2 q3 => by rw [m_i_sb q2, m_i_sb q3, J5 q q1 q3]
  have ht : ∀ j, m_i (m_si (m_si h5 cc 4 r5) t 5 (nI (n + 1))) t j = if j = 5 then nI (n + 1) else m_i h t j := fun j => by
    rw [m_i_si, m_i_sb (by omega), J5 t (by omega) (by omega)]; simp
  have hcj : ∀ j, m_i (m_si (m_si h5 cc 4 r5) t 5 (nI (n + 1))) cc j = if j = 4 then r5 else if j = 3 then r4 else if j = 2 then r3 else if j = 1 then r2 else if j = 0 then r1 else m_i h cc j := fun j => by
    rw [m_i_sb (by omega), m_i_si, I5 cc (by omega), m_i_si, I4 cc (by omega), m_i_si, I3 cc (by omega), m_i_si, I2 cc (by omega), m_i_si, I1 cc (by omega)]; simp
  have hw : ∀ r, r ≠ 0 → r ≠ 20 → r ≠ 21 → r ≠ 22 → r ≠ 23 → r ≠ 24 → r ≠ 25 → r ≠ 26 → (w_si (w_si (w_si w5 25 n s5) 26 n 0) 20 6 (nI (n + 1))).1 r = w.1 r := fun r q1 q2 q3 q4 q5 q6 q7 q8 => by rw [w_si_r q2, w_si_r q8, w_si_r q7, j5.1 r q1, w_si_r q6, o5.1 r q1, w_si_r q5, v5.1 r q1, w_si_r q4, d5.1 r q1, w_si_r q3, a5.1 r q1]
  have hw20' : w5.1 20 = w.1 20 := by rw [j5.1 20 (by decide), w_si_r (by decide), o5.1 20 (by decide), w_si_r (by decide), v5.1 20 (by decide), w_si_r (by decide), d5.1 20 (by decide), w_si_r (by decide), a5.1 20 (by decide)]
  have hw20 : ∀ j, (w_si (w_si (w_si w5 25 n s5) 26 n 0) 20 6 (nI (n + 1))).1 20 j = if j = 6 then nI (n + 1) else w.1 20 j := fun j => by
    rw [w_si_e, w_si_r (by decide), w_si_r (by decide), hw20']; simp
  have hw0 : ∀ j, j ≠ 33 → j ≠ 34 → (w_si (w_si (w_si w5 25 n s5) 26 n 0) 20 6 (nI (n + 1))).1 0 j = w.1 0 j := fun j q1 q2 => by rw [w_si_r (by decide), w_si_r (by decide), w_si_r (by decide), j5.2 j q1 q2, w_si_r (by decide), o5.2 j q1 q2, w_si_r (by decide), v5.2 j q1 q2, w_si_r (by decide), d5.2 j q1 q2, w_si_r (by decide), a5.2 j q1 q2]
  have g21 : ∀ j, (w_si (w_si (w_si w5 25 n s5) 26 n 0) 20 6 (nI (n + 1))).1 21 j = if j = n then s1 else w.1 21 j := fun j => by
    rw [w_si_r (by decide), w_si_r (by decide), w_si_r (by decide), j5.1 21 (by decide), w_si_r (by decide), o5.1 21 (by decide), w_si_r (by decide), v5.1 21 (by decide), w_si_r (by decide), d5.1 21 (by decide), w_si_e, a5.1 21 (by decide)]; simp
  have g22 : ∀ j, (w_si (w_si (w_si w5 25 n s5) 26 n 0) 20 6 (nI (n + 1))).1 22 j = if j = n then s2 else w.1 22 j := fun j => by
    rw [w_si_r (by decide), w_si_r (by decide), w_si_r (by decide), j5.1 22 (by decide), w_si_r (by decide), o5.1 22 (by decide), w_si_r (by decide), v5.1 22 (by decide), w_si_e, d5.1 22 (by decide), w_si_r (by decide), a5.1 22 (by decide)]; simp
  have g23 : ∀ j, (w_si (w_si (w_si w5 25 n s5) 26 n 0) 20 6 (nI (n + 1))).1 23 j = if j = n then s3 else w.1 23 j := fun j => by
    rw [w_si_r (by decide), w_si_r (by decide), w_si_r (by decide), j5.1 23 (by decide), w_si_r (by decide), o5.1 23 (by decide), w_si_e, v5.1 23 (by decide), w_si_r (by decide), d5.1 23 (by decide), w_si_r (by decide), a5.1 23 (by decide)]; simp
  have g24 : ∀ j, (w_si (w_si (w_si w5 25 n s5) 26 n 0) 20 6 (nI (n + 1))).1 24 j = if j = n then s4 else w.1 24 j := fun j => by
    rw [w_si_r (by decide), w_si_r (by decide), w_si_r (by decide), j5.1 24 (by decide), w_si_e, o5.1 24 (by decide), w_si_r (by decide), v5.1 24 (by decide), w_si_r (by decide), d5.1 24 (by decide), w_si_r (by decide), a5.1 24 (by decide)]; simp
  have g25 : ∀ j, (w_si (w_si (w_si w5 25 n s5) 26 n 0) 20 6 (nI (n + 1))).1 25 j = if j = n then s5 else w.1 25 j := fun j => by
    rw [w_si_r (by decide), w_si_r (by decide), w_si_e, j5.1 25 (by decide), w_si_r (by decide), o5.1 25 (by decide), w_si_r (by decide), v5.1 25 (by decide), w_si_r (by decide), d5.1 25 (by decide), w_si_r (by decide), a5.1 25 (by decide)]; simp
  have g26 : ∀ j, (w_si (w_si (w_si w5 25 n s5) 26 n 0) 20 6 (nI (n + 1))).1 26 j = if j = n then 0 else w.1 26 j := fun j => by
    rw [w_si_r (by decide), w_si_e, w_si_r (by decide), j5.1 26 (by decide), w_si_r (by decide), o5.1 26 (by decide), w_si_r (by decide), v5.1 26 (by decide), w_si_r (by decide), d5.1 26 (by decide), w_si_r (by decide), a5.1 26 (by decide)]; simp
  have ca : (nI n).toNatClampNeg = n := nI_clamp (by omega)
  refine ⟨_, _, k5, f5, ?_, ?_, z3, hF, fun r hr => hw r (by omega) (by omega) (by omega) (by omega) (by omega) (by omega) (by omega) (by omega), hw0, fun z => ⟨?_, fun y => by rw [hw20]; exact y.resolve_right id⟩⟩
  · obtain ⟨p1, p2, p3⟩ := rd6 hs.1
    obtain ⟨q1, q2, q3⟩ := rd6 b3.1
    obtain ⟨t1, t2, t3⟩ := rd6 e3.1
    obtain ⟨u1, u2, u3⟩ := rd6 x3.1
    obtain ⟨l1, l2, l3⟩ := rd6 y3.1
    have rq := hT.2.2.2.2.2.2.2.2.2 n n8
    rw [hc] at rq
    have hT1 : m_t h1 cc = .inl 5 := by rw [a4.1]; exact rq.2
    have hT2 : m_t h2 cc = .inl 5 := by rw [d4.1, m_t_si]; exact hT1
    have hT3 : m_t h3 cc = .inl 5 := by rw [v4.1, m_t_si]; exact hT2
    have hT4 : m_t h4 cc = .inl 5 := by rw [o4.1, m_t_si]; exact hT3
    have hT5 : m_t h5 cc = .inl 5 := by rw [j4.1, m_t_si]; exact hT4
    have hTt : m_t h5 t = .inl 9 := by rw [j4.1, m_t_si, o4.1, m_t_si, v4.1, m_t_si, d4.1, m_t_si, a4.1]; exact hT.1
    have e5 : m_i h5 t 5 = nI n := by rw [J5 t (by omega) (by omega)]; exact c7
    unfold f_X10_readPerson
    rw [u_ck hT.1, hT.2.1, u_ob, c7, u_ck (ixb_e hT.2.2.2.2.2.2.2.1 n8 (by decide)), ca, rq.1, u_ob, u_ck p1, p2, u_ob, u_ck p3, a1, u_cb, u_ck hT1, u_nn]
    rw [u_ck q1, q2, u_ob, u_ck q3, d1, u_cb, u_ck hT2, u_nn, u_ck t1, t2, u_ob, u_ck t3, m_i_ss, v1, u_cb, u_ck hT3, u_nn]
    rw [u_ck u1, u2, u_ob, u_ck u3, o1, u_cb, u_ck hT4, u_nn, u_ck l1, l2, u_ob, u_ck l3, j1, u_cb, u_ck hT5, u_nn, m_t_si, u_ck hTt, m_i_sb (show t ≠ cc by omega), e5, nI_1, u_nn]
  · have xx : ixn 8 (nI n) = true := u_ixn n8 (by decide)
    have w6 : w5.1 20 6 = nI n := by rw [hw20']; exact c4
    unfold p_X12_trainPart p_X12_readsPerson
    rw [if_neg (by decide), if_neg (by decide), if_pos rfl, u_ck ix_10_6, tn_6, c4, u_nn, a2, u_cw, u_ck xx, u_nn, ca, d2, u_cw, u_ck xx, u_nn, u_ck xx, w_si_s, v2, u_cw, u_ck xx, u_nn, o2, u_cw, u_ck xx, u_nn, j2, u_cw, u_ck xx, u_nn, u_ck xx, u_nn, u_ck ix_10_6, u_ck ix_10_6, w_si_r (by decide), w_si_r (by decide), w6, nI_1, u_nn, u_ob]
  · obtain ⟨z4, m5, lo5, hi5⟩ := j7 z
    obtain ⟨z3, m4, lo4, hi4⟩ := o7 z4
    obtain ⟨z2, m3, lo3, hi3⟩ := v7 z3
    obtain ⟨z1, m2, lo2, hi2⟩ := d7 z2
    obtain ⟨-, m1, lo1, hi1⟩ := a7 z1
    subst m1 m2 m3 m4 m5
    refine ⟨⟨?_, ?_, ?_, ?_, ?_, ?_, ?_, ?_, ?_, ?_⟩, n + 1, a, b, ⟨by omega, c2, c3, ?_, ?_, ?_, ?_, ?_, ?_⟩, ⟨?_, fun i hi' => ?_, fun i p1 p2 => ?_⟩, ⟨fun i hi' => ?_, fun i hi' => ?_⟩, fun i hi' => ?_⟩
    · rw [ht, hw20]; exact s.1
    · rw [hw20]; exact s.2.1
    · rw [ht, hw20]; exact s.2.2.1
    · rw [hw20]; exact s.2.2.2.1
    · rw [ht, hw20]; exact s.2.2.2.2.1
    · rw [hw20]; exact s.2.2.2.2.2.1
    · rw [ht, hw20]; exact s.2.2.2.2.2.2.1
    · rw [hw20]; exact s.2.2.2.2.2.2.2.1
    · rw [hi _ (by omega) (by omega) (by omega), hw20]; exact s.2.2.2.2.2.2.2.2.1
    · rw [hw20]; exact s.2.2.2.2.2.2.2.2.2
    · rw [hw20]; rfl
    · rw [hw20]; exact c5
    · rw [hw20]; exact c6
    · rw [ht]; rfl
    · rw [ht]; exact c8
    · rw [ht]; exact c9
    · rw [hw20]; exact g.1
    · unfold fr20
      rw [hw20]
      by_cases y : i = n
      · subst y; rw [hc, hcj, ← hc]; exact g.2.1 i hi'
      · rw [hi _ (by omega) (by omega) (by omega)]; exact g.2.1 i hi'
    · rw [hi _ (by omega) (by omega) (by omega)]; exact g.2.2 i (by omega) p2
    · rw [hi _ (by omega) (by omega) (by omega), hi _ (by omega) (by omega) (by omega), hw 27 (by decide) (by decide) (by decide) (by decide) (by decide) (by decide) (by decide) (by decide), hw 28 (by decide) (by decide) (by decide) (by decide) (by decide) (by decide) (by decide) (by decide)]; exact u.1 i hi'
    · rw [hi _ (by omega) (by omega) (by omega), hi _ (by omega) (by omega) (by omega), hi _ (by omega) (by omega) (by omega), hw 29 (by decide) (by decide) (by decide) (by decide) (by decide) (by decide) (by decide) (by decide), hw 30 (by decide) (by decide) (by decide) (by decide) (by decide) (by decide) (by decide) (by decide), hw 31 (by decide) (by decide) (by decide) (by decide) (by decide) (by decide) (by decide) (by decide)]; exact u.2 i hi'
    · unfold TDq
      rw [g21, g22, g23, g24, g25, g26]
      by_cases y : i = n
      · subst y
        rw [if_pos rfl, if_pos rfl, if_pos rfl, if_pos rfl, if_pos rfl, if_pos rfl, hc, hcj, hcj, hcj, hcj, hcj, hcj]
        refine ⟨⟨rfl, rfl, rfl, rfl, rfl, ?_⟩, bd_r lo1 hi1 rfl rfl, bd_r lo2 hi2 rfl rfl, ?_⟩
        · rw [← hc]; exact g.2.2 i (Nat.le_refl _) n8
        · rw [I_le] at lo2 hi2 lo3 hi3
          have i0 : (0 : Int32).toInt = 0 := rfl
          have i1 : (1 : Int32).toInt = 1 := rfl
          have i239 : (239 : Int32).toInt = 239 := rfl
          have i240 : (240 : Int32).toInt = 240 := rfl
          rw [I_add (by omega) (by omega), i1] at lo3
          refine ⟨by omega, ⟨by omega, by omega⟩, bd_r lo4 hi4 rfl rfl, bd_r lo5 hi5 rfl rfl, by unfold bd; decide⟩
      · have := q i (by omega)
        unfold TDq at this
        rw [if_neg y, if_neg y, if_neg y, if_neg y, if_neg y, if_neg y, hi _ (by omega) (by omega) (by omega)]; exact this
end
