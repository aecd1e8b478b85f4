/-! PURE 98u: plan: the call. -/
section
variable {G : GG} {own : Nat → Nat} {R X c t U : Nat} {h h1 h2 h' : AH} {w w' w1 w2 w3 x1 x2 x' : MS} {v v' : VV}
theorem rng_m23 {α : Type} {x : Int32} {a b : α} : (if x < -1 then a else if x < 24 then b else a) = if -1 ≤ x ∧ x ≤ 23 then b else a := by
  have i1 : (-1 : Int32).toInt = -1 := rfl
  have i2 : (24 : Int32).toInt = 24 := rfl
  have i3 : (23 : Int32).toInt = 23 := rfl
  by_cases h1 : x < -1
  · rw [if_pos h1, if_neg (fun q => by have := q.1; rw [I_lt] at h1; rw [I_le] at this; omega)]
  · rw [if_neg h1]
    by_cases h2 : x < 24
    · rw [if_pos h2, if_pos (by rw [I_lt] at h1 h2; rw [I_le, I_le]; omega)]
    · rw [if_neg h2, if_neg (fun q => h2 (by have := q.2; rw [I_le] at this; rw [I_lt]; omega))]
theorem Fw.wq {S : Nat → Prop} (hF : Fw S w w') (hs : ∀ r, S r → (65 ≤ r ∧ r ≤ 80) ∨ (58 ≤ r ∧ r ≤ 61)) : WQ w w' := ⟨PW.of (fun r q1 q2 => hF r (fun z => by have := hs r z; omega)), fun k _ => by rw [hF 0 (fun z => by have := hs 0 z; omega)], fun r hr => hF r (fun z => by have := hs r z; omega), fun j _ => by rw [hF 81 (fun z => by have := hs 81 z; omega)]⟩
/-- the reference finds the plan -/
theorem p_findsPlan (hS : Sta w.1) {N : Nat} (hN : N ≤ 24) {wk : MS} (k1 : p_X12_keepsAll G w = some wk) (hs : ∀ j, j < N → Sta (rl G wk j).1 ∧ ((rl G wk j).1 1 10).toInt < 240 ∧ ∃ h3, Cab h3 c t (rl G wk j).1) {a b : Nat} (ha : a < 61) (hb : b < 6) (ea : w.1 1 11 = nI a) (eb : w.1 1 13 = nI b) : ∃ x6, WQ w x6 ∧ (∀ j, j < N → x6.1 70 j = nI (pth (fun i => (rl G wk i).1) N a b (j + 1)).2) ∧ p_X12_findsPlan G (nI N) w = some (lsN (fun i => (rl G wk i).1) N 0 a b, x6) := by
  obtain ⟨kr, kp⟩ := keeps_pw k1
  have hSk : Sta wk.1 := hS.pw kp.p3
  have hbz : Bz wk.1 := ⟨st_warm hSk.1, fun q hq => (st_P hSk.1 hq).2.2.2.2.2.2.2.2.2.2.2⟩
  obtain ⟨xa, a1, a2, a3, a4⟩ := lays_miles (G := G) (w := wk) (c := c) (t := t) hN N 0 bN wk (Nat.zero_add _) (bN_gt (by omega)) ⟨fun _ _ => rfl, fun _ _ _ _ _ => rfl⟩ hbz (fun j _ hj => hs j hj) (fun j hj => by omega)
  obtain ⟨xb, b1, b2, b3⟩ := kb (G := G) (w2 := xa) k1 (fun r hr => a1 r (by unfold RLy; omega))
  have hPb : ∀ i, i < N → PlW xb (rl G wk i).1 i := fun i hi => by
    have := a2 i hi
    unfold PlW at this ⊢
    rw [b3 66 (by decide), b3 67 (by decide), b3 68 (by decide), b3 69 (by decide)]; exact this
  obtain ⟨xc, c1, c2, c3, c4, c5⟩ := zero65 (G := G) hN 366 0 bN xb rfl (bN_gt (by decide))
  obtain ⟨xd, d1, d2, d3, d4⟩ := row_miles (G := G) (V := fun i => (rl G wk i).1) hN (nI N) N bN xc (Nat.le_refl _) (bN_gt (by omega)) (fun i hi => (hPb i hi).fw c1) (fun i h1 h2 y b h3 h4 => by
    have : i = N := by omega
    subst this
    rw [Nat.add_assoc, c3 _ (by omega) (by omega), lsN_N])
  have hFd : Fw (fun r => r = 65) xb xd := c1.tr d1
  have e1 : xd.1 1 = xb.1 1 := hFd 1 (by decide)
  have e13 : xd.1 1 13 = nI b := by rw [e1, pw1 b2.1 (by decide)]; exact eb
  have e11 : xd.1 1 11 = nI a := by rw [e1, pw1 b2.1 (by decide)]; exact ea
  obtain ⟨xe, g1, g2, g3, g4⟩ := plan_path (G := G) (V := fun i => (rl G wk i).1) (a := a) (b := b) hN ha hb (lsN (fun i => (rl G wk i).1) N 0 a b) N 0 bN xd (Nat.zero_add _) (bN_gt (by omega)) (fun i hi => (hPb i hi).fw hFd) d3 (fun j hj => by omega)
  refine ⟨xe, b2.tr ((hFd.wq (fun r hr => by omega)).tr (g1.wq (fun r hr => by omega))), g3, ?_⟩
  unfold p_X12_findsPlan p_X12_laysMiles
  rw [k1, u_ob]
  have l1 := a4 (fun (h_293 : MS) => (ob (p_X12_laysBack G h_293) fun w75 => some w75))
  rw [b1, u_ob] at l1
  have l2 : lw1 (P_X12_laysMiles_6 G (nI N) fun h_293 => ob (p_X12_laysBack G h_293) fun w75 => some w75) bN 0 wk = some xb := l1
  rw [l2, u_ob]
  refine (c5 _).trans ?_
  rw [u_nn]
  refine (d4 _).trans ?_
  unfold p_X12_fromMile
  have z0 : (366 : Int32) * 0 + (61 : Int32) * nI b + nI a = nI (366 * 0 + 61 * b + a) := i366 0 b a
  have l3 := d3 0 (Nat.zero_le _) a b ha hb
  rw [u_ck ix_17_13, u_nn, tn_13, u_ck ix_17_11, u_nn, tn_11, e13, e11, z0, u_ck (u_ixn (by omega) (by decide)), u_cw, nI_clamp (by omega), l3]
  exact g4
theorem nat24 {x L : Int32} (hx : (1 ≤ x ∧ x ≤ 24) ∧ x ≤ L) : ∃ n : Nat, x = nI n ∧ 1 ≤ n ∧ n ≤ 24 ∧ (n : Int) ≤ L.toInt := by
  have h1 := hx.1.1
  have h2 := hx.1.2
  have h3 := hx.2
  rw [I_le] at h1 h2 h3
  have i1 : (1 : Int32).toInt = 1 := rfl
  have i24 : (24 : Int32).toInt = 24 := rfl
  obtain ⟨k, hk, e⟩ := bd_nI (x := x) (b := 24) ⟨by omega, by omega⟩
  have ei : x.toInt = k := by rw [e]; exact nI_toInt (by omega)
  exact ⟨k, e, by omega, hk, by omega⟩
theorem call_plan (x y : Int32) : Call X (f_X11_plan G X x y) (p_X12_plan G x y) := by
  intro h w ⟨own, R, hR⟩
  obtain ⟨U, c, t, hc⟩ := hR.cur
  have hB := hc.1
  have hSt := hc.2.1
  have hS := hSt.1
  have pin2 : ∀ w : MS, p_X12_in G y.toInt64 (-1 : Int64) (23 : Int64) w = some (if -1 ≤ y ∧ y ≤ 23 then 1 else 0, w) := fun w => p_in_i G y (-1) 23 w
  have pin24 : ∀ w : MS, p_X12_in G x.toInt64 (1 : Int64) (24 : Int64) w = some (if 1 ≤ x ∧ x ≤ 24 then 1 else 0, w) := fun w => p_in_i G x 1 24 w
  unfold f_X11_plan p_X12_plan
  rw [u_ck hB.1.1, c_canTry hB hS, u_cb, p_isTrain hS, u_cw, rng_m23]
  by_cases hy : w.1 1 0 = 1 ∧ (1 ≤ x ∧ x ≤ 24) ∧ x ≤ 240 - w.1 1 10
  rotate_left
  · rw [if_neg hy, if_pos rfl]
    by_cases q0 : w.1 1 0 = 0
    · rw [if_pos q0]; exact stay hR _
    have q1 : w.1 1 0 = 1 := (told01 hS).resolve_left q0
    rw [if_neg q0, pin24, u_cw]
    by_cases h60 : 1 ≤ x ∧ x ≤ 24
    · have hl : 240 - w.1 1 10 < x := Classical.byContradiction fun e => hy ⟨q1, h60, by rw [I_lt] at e; rw [I_le]; omega⟩
      rw [if_pos h60, if_neg n10, p_milesLeft, u_cw, if_pos hl]; exact stay hR _
    · rw [if_neg h60, if_pos rfl]; exact stay hR _
  rw [if_pos hy, if_neg n10]
  obtain ⟨q, h24⟩ := hy
  have hl' : ¬ 240 - w.1 1 10 < x := by have := h24.2; rw [I_le] at this; rw [I_lt]; omega
  rw [q, if_neg n10, pin24, u_cw, if_pos h24.1, if_neg n10, p_milesLeft, u_cw, if_neg hl', pin2, u_cw]
  by_cases hz : -1 ≤ y ∧ y ≤ 23
  rotate_left
  · rw [if_neg hz, if_neg hz, if_pos rfl]; exact stay hR _
  rw [if_pos hz, if_pos hz, if_neg n10]
  obtain ⟨N, rfl, hN1, hN, hNl⟩ := nat24 h24
  have hleft := left_i hS
  obtain ⟨h1', b1, b2, b3⟩ := c_trial (G := G) hR hc q
  obtain ⟨hC, hCa⟩ := hc.2.2.1.cab q
  have hR1 := hR.frq b2
  have hB1 := hc.frq hR b2
  obtain ⟨wk, k1, -⟩ := p_keepsAll (G := G) (w := w)
  obtain ⟨kr, kp⟩ := keeps_pw k1
  have hSk := hSt.pw kp.p3
  have hCk : Cab h1' (X + 34) t wk.1 := b3.pw hS kp.p3
  have hmk : (wk.1 1 10).toInt = (w.1 1 10).toInt := by rw [px1 kp.p3 (by decide)]
  have hGP1 : GP h1' X := hR1.1.2.2.2.2.2.1
  obtain ⟨h2', p1, p2, p3, p4⟩ := prep_loop (G := G) (w := wk) hGP1 (by have := hCa.2.2.2.1; omega) hN N 0 bN h1' (Nat.zero_add _) (bN_gt (by omega)) Fr.rf hCk hSk (by show (wk.1 1 10).toInt + (N : Int) ≤ 240; omega) (fun j hj => by omega)
  obtain ⟨a, ha, ea⟩ := bd_nI (b := 60) (st_warm hS)
  obtain ⟨b, hb, eb⟩ := bd_nI (b := 5) (st_hole hS)
  obtain ⟨x6, w1, w2, w3⟩ := p_findsPlan (G := G) (c := X + 34) (t := t) hSt hN k1 (fun j hj => p3 j (Nat.zero_le _) hj) (a := a) (b := b) (by omega) (by omega) ea eb
  rw [w3, u_cw]
  have iy : y.toInt = -1 → y = -1 := fun e => by rw [I_eq]; exact e
  by_cases hyn : y < nI N
  rotate_left
  · -- beyond the plan
    have hne : ¬ y = -1 := fun e => hyn (by rw [e, I_lt, nI_toInt (by omega)]; have i1 : (-1 : Int32).toInt = -1 := rfl; omega)
    have hle : nI N ≤ y := by rw [I_lt] at hyn; rw [I_le]; omega
    rw [if_neg hyn, if_neg hne, if_pos hle]
    exact ⟨_, h, x6, rfl, rfl, ⟨own, R, hR.wq w1⟩, Kp.rf⟩
  rw [if_pos hyn]
  have hGP2 := hGP1.fr p1
  obtain ⟨h3', s1, s2, s3, s4⟩ := c_solve (G := G) hGP2 (fun i => (rl G wk i).1) hN (fun i hi => (p3 i (Nat.zero_le _) hi).1.1) p2
  have hGP3 := hGP2.fr s1
  have hF3 : FrQ X R h h3' := (b2.tr (p1.q (fun z hz => ⟨Or.inl (by unfold STr SPl at hz; omega), by unfold STr SPl at hz; omega⟩))).tr (s1.q (fun z hz => ⟨Or.inl (by unfold SSl at hz; omega), by unfold SSl at hz; omega⟩))
  have hB3 := hc.frq hR hF3
  have r9 : ∀ h0, m_r h0 X = m_r h X → m_r h0 X 9 = some (X + 44) := fun h0 e => by rw [e]; exact hR.1.1.2.2.2.2.2.2.2.2.2.1
  have eX1 : m_r h1' X = m_r h X := b2.2.2.1 X (by omega)
  have eX2 : m_r h2' X = m_r h X := by rw [p1.2.1]; exact eX1
  have eX3 : m_r h3' X = m_r h X := hF3.2.2.1 X (by omega)
  have t2 : m_t h2' X = .inl 11 := by rw [p1.1]; exact hB1.1.1
  have p4' : f_X4_prepare G (X + 44) (X + 34) (nI N) h1' = some h2' := p4
  have fin : ∀ (F : Option (Int32 × AH)) (P : Option (Int32 × MS)), (∃ a, F = some (a, h3') ∧ P = some (a, x6)) → ∃ r h' w', F = some (r, h') ∧ P = some (r, w') ∧ Rel h' X w' ∧ Kp X h h' := fun F P ⟨a, q1, q2⟩ => ⟨a, h3', x6, q1, q2, ⟨own, R, (hR.frq hF3).wq w1⟩, hF3.kp hR⟩
  refine fin _ _ ?_
  rw [u_ck hB.1.1, hR.m7, u_ob, hB.1.2.1, u_ob, u_ck hB.1.2.2.1, hB.1.2.2.2.1, u_ob, u_ck hR.1.2.2.2.1.1, b1, u_ob, u_ck hB1.1.1, r9 h1' eX1, u_ob, hR1.m7, u_ob, u_ck hGP1.1, p4', u_ob, u_ck t2, r9 h2' eX2, u_ob, u_ck hGP2.1, s4, u_ob]
  have c3 : m_i h3' c 3 = nI a := by rw [hB3.2.2.2.1]; exact ea
  have c2 : m_i h3' c 2 = nI b := by rw [hB3.2.2.1]; exact eb
  by_cases hy1 : y = -1
  · rw [if_pos hy1, if_pos hy1, u_ck hB3.1.1, r9 h3' eX3, u_ob, hB3.1.2.1, u_ob, u_ck hB3.1.2.2.1, hB3.1.2.2.2.1, u_ob, u_ck hB3.1.2.2.2.2.1, u_ob, u_ck hB3.1.2.2.1, hB3.1.2.2.2.1, u_ob, u_ck hB3.1.2.2.2.2.1, u_ck hGP3.1, c3, c2]
    unfold f_X4_leastFrom
    rw [u_ck hGP3.1, hGP3.r7, u_ob, i6, u_ck (ixb_e (n := 366) hGP3.2.2.2.2.2.2.2.2.2.1 (by omega) (by decide)), u_cb, nI_clamp (by omega), s2 a b (by omega) (by omega)]
    exact ⟨_, rfl, rfl⟩
  · have hy0 : 0 ≤ y ∧ y ≤ 23 := ⟨by
      have := hz.1
      rw [I_le] at this ⊢
      have i1 : (-1 : Int32).toInt = -1 := rfl
      have i0 : (0 : Int32).toInt = 0 := rfl
      have : y.toInt ≠ -1 := fun e => hy1 (iy e)
      omega, hz.2⟩
    obtain ⟨m, rfl, hm, -⟩ := nat_of hy0
    have i23 : (23 : Int32).toInt = 23 := rfl
    have hmN : m < N := by rw [I_lt, nI_toInt (by omega), nI_toInt (by omega)] at hyn; omega
    have hle : ¬ nI N ≤ nI m := nI_ge hmN (by omega)
    have af := after_loop (G := G) hGP3 (fun i => (rl G wk i).1) (a := a) (b := b) (q := m) hN (by omega) (by omega) hmN (fun i hi => (p2 i hi).fr s1 (fun z hz => by unfold SSl at hz; omega)) s3 (m + 1) 0 bN (Nat.zero_add _) (bN_gt (by omega))
    have af' : f_X4_holeAfter G (X + 44) (nI a) (nI b) (nI m) h3' = some (nI (pth (fun i => (rl G wk i).1) N a b (m + 1)).2, h3') := af
    rw [if_neg hy1, if_neg hy1, if_neg hle, u_ck hB3.1.1, r9 h3' eX3, u_ob, hB3.1.2.1, u_ob, u_ck hB3.1.2.2.1, hB3.1.2.2.2.1, u_ob, u_ck hB3.1.2.2.2.2.1, u_ob, u_ck hB3.1.2.2.1, hB3.1.2.2.2.1, u_ob, u_ck hB3.1.2.2.2.2.1, u_ck hGP3.1, c3, c2, af', u_cb, u_ck (u_ixn (by omega) (by decide)), nI_clamp (by omega), w2 m hmN]
    exact ⟨_, rfl, rfl⟩
end
