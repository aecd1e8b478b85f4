/-! PURE 85: questions that go miles: the trial cabin, what the reference keeps and lays back. -/
theorem I_lc (a b c : Int32) : a + (b + c) = b + (a + c) := by rw [← Int32.add_assoc, Int32.add_comm a, Int32.add_assoc]
def R7 : List Nat := [1, 2, 8, 9, 10, 11, 12]
section
variable {G : GG} {own : Nat → Nat} {R X c t U : Nat} {h h1 h2 h' : AH} {w w' w1 w2 w3 : MS} {v v' v0 : VV}
theorem runL_7 (w : MS) : (ob (p_X12_carryRow G 1 w) fun w4 => ob (p_X12_carryRow G 2 w4) fun w6 => ob (p_X12_carryRow G 8 w6) fun w8 => ob (p_X12_carryRow G 9 w8) fun w10 => ob (p_X12_carryRow G 10 w10) fun w12 => ob (p_X12_carryRow G 11 w12) fun w14 => ob (p_X12_carryRow G 12 w14) fun w16 => some w16) = runL G R7 w := rfl
theorem p_keepsAll : ∃ w', p_X12_keepsAll G w = some w' ∧ (∀ k, k ≠ 0 → k ≠ 81 → w'.1 k = w.1 k) ∧ (∀ k, k ≠ 83 → k ≠ 84 → w'.1 0 k = w.1 0 k) ∧ w'.2 = w.2 ∧ ∀ j, w'.1 81 j = pickS 81 (sgs R7) 5000 w.1 j := by
  let wz := w_si (w_si w 0 83 (nI 5000)) 0 84 0
  obtain ⟨w', f1, g1, g2, g3, g4, g5⟩ := run_store (G := G) R7 5000 wz (by decide) (by decide) (by show (w_si (w_si w 0 83 _) 0 84 _).1 0 83 = _; rw [w_si_j (by decide), w_si_s]) (w_si_s _ _ _ _)
  refine ⟨w', ?_, fun k h1 h2 => ?_, fun k h1 h2 => ?_, g4, fun j => ?_⟩
  · unfold p_X12_keepsAll p_X12_carriesAll
    have e : (1250 : Int32) * 4 = nI 5000 := by decide
    rw [u_nn, e, u_ck (by decide), u_nn]
    simp only [if_true]
    rw [show (ob (p_X12_carryRow G 1 (w_si (w_si w 0 83 (nI 5000)) 0 84 0)) fun w4 => ob (p_X12_carryRow G 2 w4) fun w6 => ob (p_X12_carryRow G 8 w6) fun w8 => ob (p_X12_carryRow G 9 w8) fun w10 => ob (p_X12_carryRow G 10 w10) fun w12 => ob (p_X12_carryRow G 11 w12) fun w14 => ob (p_X12_carryRow G 12 w14) fun w16 => some w16) = some w' from f1, u_ob]
  · rw [g3 k h1 h2]
    show (w_si (w_si w 0 83 _) 0 84 _).1 k = _
    rw [w_si_r h1, w_si_r h1]
  · rw [g2 k h1]
    show (w_si (w_si w 0 83 _) 0 84 _).1 0 k = _
    rw [w_si_j h2, w_si_j h1]
  · rw [g5]
    refine pickS_cg (fun q hq => ?_) ?_
    · have : q.1 ≠ 0 := by revert hq; revert q; decide
      show (w_si (w_si w 0 83 _) 0 84 _).1 q.1 = _
      rw [w_si_r this, w_si_r this]
    · show (w_si (w_si w 0 83 _) 0 84 _).1 81 j = _
      rw [w_si_r (by decide), w_si_r (by decide)]
theorem p_laysBack : ∃ w', p_X12_laysBack G w = some w' ∧ (∀ k, k ≠ 83 → k ≠ 84 → w'.1 0 k = w.1 0 k) ∧ w'.2 = w.2 ∧ ∀ k, k ≠ 0 → ∀ j, w'.1 k j = lodS 81 (sgs R7) 5000 w.1 k j := by
  let wz := w_si (w_si w 0 83 (nI 5000)) 0 84 1
  obtain ⟨w', f1, g1, g2, g3, g4⟩ := run_load (G := G) R7 5000 wz (by decide) (by decide) (by decide) (by show (w_si (w_si w 0 83 _) 0 84 _).1 0 83 = _; rw [w_si_j (by decide), w_si_s]) (w_si_s _ _ _ _)
  have gr : ∀ k, k ≠ 0 → wz.1 k = w.1 k := fun k hk => by
    show (w_si (w_si w 0 83 _) 0 84 _).1 k = _
    rw [w_si_r hk, w_si_r hk]
  refine ⟨w', ?_, fun k h1 h2 => ?_, g3, fun k hk j => ?_⟩
  · unfold p_X12_laysBack p_X12_carriesAll
    have e : (1250 : Int32) * 4 = nI 5000 := by decide
    rw [u_nn, e, u_ck (by decide), u_nn]
    simp only [if_true]
    rw [show (ob (p_X12_carryRow G 1 (w_si (w_si w 0 83 (nI 5000)) 0 84 1)) fun w4 => ob (p_X12_carryRow G 2 w4) fun w6 => ob (p_X12_carryRow G 8 w6) fun w8 => ob (p_X12_carryRow G 9 w8) fun w10 => ob (p_X12_carryRow G 10 w10) fun w12 => ob (p_X12_carryRow G 11 w12) fun w14 => ob (p_X12_carryRow G 12 w14) fun w16 => some w16) = some w' from f1, u_ob]
  · rw [g2 k h1]
    show (w_si (w_si w 0 83 _) 0 84 _).1 0 k = _
    rw [w_si_j h2, w_si_j h1]
  · rw [g4 k hk]
    have : ∀ (rs : List (Nat × Nat × Nat)) (b : Nat), lodS 81 rs b wz.1 k j = lodS 81 rs b w.1 k j := by
      intro rs
      induction rs with
      | nil => intro b; show wz.1 k j = w.1 k j; rw [gr k hk]
      | cons q rs ih =>
        intro b
        obtain ⟨r, s, l⟩ := q
        rw [lodS_c, lodS_c, gr 81 (by decide), ih]
    exact this _ _
theorem lod_7 (v : VV) (k j : Nat) : lodS 81 (sgs R7) 5000 v k j = if k = 1 ∧ j < 17 then v 81 (5000 + j) else if k = 2 ∧ j < 7 then v 81 (5017 + j) else if k = 8 ∧ j < 8 then v 81 (5024 + j) else if k = 9 ∧ j < 8 then v 81 (5032 + j) else if k = 10 ∧ j < 8 then v 81 (5040 + j) else if k = 11 ∧ j < 8 then v 81 (5048 + j) else if k = 12 ∧ j < 8 then v 81 (5056 + j) else v k j := by
  show lodS 81 [(1, 0, 17), (2, 0, 7), (8, 0, 8), (9, 0, 8), (10, 0, 8), (11, 0, 8), (12, 0, 8)] 5000 v k j = _
  rw [lodS_c, lodS_c, lodS_c, lodS_c, lodS_c, lodS_c, lodS_c]
  simp only [Nat.zero_le, true_and, Nat.zero_add, Nat.sub_zero]
  rfl
theorem pick_7 (v : VV) (j : Nat) : pickS 81 (sgs R7) 5000 v j = if 5000 ≤ j ∧ j < 5017 then v 1 (j - 5000) else if 5017 ≤ j ∧ j < 5024 then v 2 (j - 5017) else if 5024 ≤ j ∧ j < 5032 then v 8 (j - 5024) else if 5032 ≤ j ∧ j < 5040 then v 9 (j - 5032) else if 5040 ≤ j ∧ j < 5048 then v 10 (j - 5040) else if 5048 ≤ j ∧ j < 5056 then v 11 (j - 5048) else if 5056 ≤ j ∧ j < 5064 then v 12 (j - 5056) else v 81 j := by
  show pickS 81 [(1, 0, 17), (2, 0, 7), (8, 0, 8), (9, 0, 8), (10, 0, 8), (11, 0, 8), (12, 0, 8)] 5000 v j = _
  rw [pickS_c, pickS_c, pickS_c, pickS_c, pickS_c, pickS_c, pickS_c]
  simp only [Nat.zero_add]
  rfl
/-- kept, whatever happened, and laid back -/
theorem kept_back (k1 : p_X12_keepsAll G w = some w1) (h81 : w2.1 81 = w1.1 81) (hs : ∀ r, (3 ≤ r ∧ r ≤ 7) ∨ (13 ≤ r ∧ r ≤ 19) → w2.1 r = w1.1 r) : ∃ w3, p_X12_laysBack G w2 = some w3 ∧ PW w.1 w3.1 ∧ (∀ k, k ≠ 83 → k ≠ 84 → w3.1 0 k = w2.1 0 k) ∧ (∀ k, 3 ≤ k → (k ≤ 7 ∨ 13 ≤ k) → w3.1 k = w2.1 k) ∧ w3.2 = w2.2 := by
  obtain ⟨wk, e1, e2, e3, e4, e5⟩ := p_keepsAll (G := G) (w := w)
  rw [k1] at e1; cases e1
  obtain ⟨w3, f1, f2, f3, f4⟩ := p_laysBack (G := G) (w := w2)
  have f5 : ∀ k, k ≠ 0 → ∀ j, w3.1 k j = _ := fun k hk j => by rw [f4 k hk j, lod_7, h81]
  refine ⟨w3, f1, fun r h1 h2 i hi => ?_, f2, fun k q1 q2 => ?_, f3⟩
  · rw [f5 r (by omega)]
    by_cases c1 : r = 1
    · subst c1; have hi : i < 17 := hi
      rw [if_pos ⟨rfl, hi⟩, e5, pick_7, if_pos (by omega), show 5000 + i - 5000 = i by omega]
    rw [if_neg (by omega)]
    by_cases c2 : r = 2
    · subst c2; have hi : i < 7 := hi
      rw [if_pos ⟨rfl, hi⟩, e5, pick_7, if_neg (by omega), if_pos (by omega), show 5017 + i - 5017 = i by omega]
    rw [if_neg (by omega)]
    by_cases c8 : r = 8
    · subst c8; have hi : i < 8 := hi
      rw [if_pos ⟨rfl, hi⟩, e5, pick_7, if_neg (by omega), if_neg (by omega), if_pos (by omega), show 5024 + i - 5024 = i by omega]
    rw [if_neg (by omega)]
    by_cases c9 : r = 9
    · subst c9; have hi : i < 8 := hi
      rw [if_pos ⟨rfl, hi⟩, e5, pick_7, if_neg (by omega), if_neg (by omega), if_neg (by omega), if_pos (by omega), show 5032 + i - 5032 = i by omega]
    rw [if_neg (by omega)]
    by_cases c10 : r = 10
    · subst c10; have hi : i < 8 := hi
      rw [if_pos ⟨rfl, hi⟩, e5, pick_7, if_neg (by omega), if_neg (by omega), if_neg (by omega), if_neg (by omega), if_pos (by omega), show 5040 + i - 5040 = i by omega]
    rw [if_neg (by omega)]
    by_cases c11 : r = 11
    · subst c11; have hi : i < 8 := hi
      rw [if_pos ⟨rfl, hi⟩, e5, pick_7, if_neg (by omega), if_neg (by omega), if_neg (by omega), if_neg (by omega), if_neg (by omega), if_pos (by omega), show 5048 + i - 5048 = i by omega]
    rw [if_neg (by omega)]
    by_cases c12 : r = 12
    · subst c12; have hi : i < 8 := hi
      rw [if_pos ⟨rfl, hi⟩, e5, pick_7, if_neg (by omega), if_neg (by omega), if_neg (by omega), if_neg (by omega), if_neg (by omega), if_neg (by omega), if_pos (by omega), show 5056 + i - 5056 = i by omega]
    rw [if_neg (by omega), hs r (by omega), e2 r (by omega) (by omega)]
  · funext j
    rw [f5 k (by omega), if_neg (by omega), if_neg (by omega), if_neg (by omega), if_neg (by omega), if_neg (by omega), if_neg (by omega), if_neg (by omega)]
/-- the relation looks at no more than this -/
theorem img_pw5 {k : Nat} (hk : k < 4) (e : ∀ j, j < 5000 → v' 81 j = v 81 j) : PW (img v k) (img v' k) ∧ (∀ n, n < 1020 → img v' k 53 n = img v k 53 n) ∧ img v' k 54 0 = img v k 54 0 := by
  refine ⟨fun r h1 h2 i hi => ?_, fun n hn => ?_, ?_⟩
  · unfold img
    have q : r = 1 ∨ r = 2 ∨ r = 3 ∨ r = 4 ∨ r = 5 ∨ r = 6 ∨ r = 7 ∨ r = 8 ∨ r = 9 ∨ r = 10 ∨ r = 11 ∨ r = 12 ∨ r = 13 ∨ r = 14 ∨ r = 15 ∨ r = 16 ∨ r = 17 ∨ r = 18 ∨ r = 19 := by omega
    have hi17 : i < 17 := by
      rcases q with q | q | q | q | q | q | q | q | q | q | q | q | q | q | q | q | q | q | q <;> subst q <;> (refine Nat.lt_of_lt_of_le hi ?_; decide)
    rcases q with q | q | q | q | q | q | q | q | q | q | q | q | q | q | q | q | q | q | q <;> subst q <;> (refine e _ ?_; omega)
  · unfold img; exact e _ (by omega)
  · unfold img; exact e _ (by omega)
theorem RelO.cgw (hR : RelO own R h X w) (e : PW w.1 w'.1) (e0 : ∀ k, k = 32 ∨ k = 36 ∨ k = 41 ∨ k = 55 → w'.1 0 k = w.1 0 k) (er : ∀ r, (42 ≤ r ∧ r ≤ 48) ∨ r = 53 ∨ r = 82 → w'.1 r = w.1 r) (e81 : ∀ j, j < 5000 → w'.1 81 j = w.1 81 j) : RelO own R h X w' := by
  obtain ⟨g, ta, r, l, ⟨U, u, s⟩, i⟩ := hR
  refine ⟨g, ta.fr rfl rfl (e0 32 (Or.inl rfl)) (er 42 (by omega)), ⟨r.1, by rw [e0 36 (by omega)]; exact r.2.1, r.2.2.1, by rw [e0 41 (by omega)]; exact r.2.2.2⟩, fun r hr => ?_, ⟨U, by rw [e0 55 (by omega)]; exact u, s.pw e (fun n _ => by rw [er 53 (by omega)])⟩, fun k hk => ?_⟩
  · obtain ⟨L, e1, e2, e3, e4⟩ := l r hr
    exact ⟨L, e1, e2, e3.cg (fun k q1 q2 => er k (by omega)), e4⟩
  · have hI := i k hk
    unfold ImR at hI ⊢
    rw [er 82 (by omega)]
    obtain ⟨p1, p2, p3⟩ := img_pw5 (v := w.1) (v' := w'.1) hk e81
    rcases hI with a | ⟨a, s, U, b, cc, d, f, g, sc⟩
    · exact Or.inl a
    · exact Or.inr ⟨a, s, U, b, cc, d, f, by rw [p3]; exact g, sc.pw p1 p2⟩
/-- a question's rows: kept, gone through, laid back -/
theorem RelO.kb (hR : RelO own R h X w) (k1 : p_X12_keepsAll G w = some w1) (hs : ∀ r, r = 0 ∨ (3 ≤ r ∧ r ≤ 7) ∨ (13 ≤ r ∧ r ≤ 19) ∨ (42 ≤ r ∧ r ≤ 48) ∨ r = 53 ∨ r = 81 ∨ r = 82 → w2.1 r = w1.1 r) : ∃ w3, p_X12_laysBack G w2 = some w3 ∧ RelO own R h X w3 ∧ PW w.1 w3.1 ∧ (∀ k, 3 ≤ k → (k ≤ 7 ∨ 13 ≤ k) → w3.1 k = w2.1 k) ∧ (∀ k, k ≠ 83 → k ≠ 84 → w3.1 0 k = w.1 0 k) := by
  obtain ⟨wk, e1, e2, e3, e4, e5⟩ := p_keepsAll (G := G) (w := w)
  have e1' := e1
  rw [k1] at e1; cases e1
  obtain ⟨w3, f1, f2, f3, f4, f5⟩ := kept_back (G := G) (w2 := w2) k1 (hs 81 (by omega)) (fun r hr => hs r (by omega))
  have z0 : ∀ k, k ≠ 83 → k ≠ 84 → w3.1 0 k = w.1 0 k := fun k q1 q2 => by rw [f3 k q1 q2, hs 0 (by omega), e3 k q1 q2]
  refine ⟨w3, f1, hR.cgw f2 (fun k hk => z0 k (by omega) (by omega)) (fun r hr => ?_) (fun j hj => ?_), f2, f4, z0⟩
  · rw [f4 r (by omega) (by omega), hs r (by omega), e2 r (by omega) (by omega)]
  · rw [f4 81 (by decide) (by decide), hs 81 (by omega), e5, pick_7, if_neg (by omega), if_neg (by omega), if_neg (by omega), if_neg (by omega), if_neg (by omega), if_neg (by omega), if_neg (by omega)]
/-- the trial cabin, begun -/
theorem c_trial (hR : RelO own R h X w) (hcur : Cur own R h X w U c t) (told : w.1 1 0 = 1) : ∃ h1, f_X0_copyFrom G (X + 34) c h = some h1 ∧ FrQ X R h h1 ∧ Cab h1 (X + 34) t w.1 := by
  obtain ⟨hC, hCa⟩ := hcur.2.2.1.cab told
  have hS := hcur.2.1.1
  obtain ⟨h1, b1, b2, b3, b4, b5, b6, b7, b8, b9⟩ := c_copyFrom (G := G) (c1 := X + 34) hC (st_N8 hS) hR.1.2.2.2.1 (Or.inl (by have := hCa.1; omega)) (Or.inl (by have := hCa.2.2.2.1; omega))
  refine ⟨h1, b1, ⟨b2, b3, b5, fun k hk => b6 k (by omega), fun a q1 q2 => ⟨b8 a (fun z => q1 (Or.inl (by omega))), by rw [b4]⟩, fun k _ => by rw [b8 X (by omega)], by rw [b4]⟩, b9⟩
/-- the law's cells are none of a train's -/
theorem LwR.djt (hL : LwR own R h X v0) (hC : TrS h t) (hot : ∀ a, t ≤ a → a < t + 15 → own a = t) {r L : Nat} (hr : r < R) (e : m_r h (X + 9) r = some L) : L + 4 ≤ t ∨ t + 15 ≤ L := by
  obtain ⟨L', u1, u2, u3, u4, u5, u6⟩ := hL r hr
  rw [e] at u1; cases u1
  by_cases q1 : L + 4 ≤ t
  · exact Or.inl q1
  · by_cases q2 : t + 15 ≤ L
    · exact Or.inr q2
    · exfalso
      have hx : ∃ a, L ≤ a ∧ a < L + 4 ∧ t ≤ a ∧ a < t + 15 := by
        by_cases z : L ≤ t
        · exact ⟨t, by omega, by omega, by omega, by omega⟩
        · exact ⟨L, by omega, by omega, by omega, by omega⟩
      obtain ⟨a, b1, b2, b3, b4⟩ := hx
      have d1 := u6 a b1 b2
      have d2 := hot a b3 b4
      have d3 := u2.1
      have d4 := hC.1
      rw [← d1, d2, d4] at d3
      exact absurd d3 (by decide)
/-- the law asked for, and the trial cabin -/
theorem trial_law (hR : RelO own R h X w) (hC : Cab h (X + 34) t v) (hCa : CaD own h X c t) {x : Int32} (hx : x = -1 ∨ ∃ r, r < R ∧ x = nI r) (hv : ∀ k, 43 ≤ k → k ≤ 48 → v k = w.1 k) (h16 : v 1 16 = x) : ∃ law, f_X11_lawOf G X x h = some (law, h) ∧ LawOk h (X + 34) t v law ∧ ∀ a, MSc (X + 34) law a → (Scr X R h a ∧ a ≠ X) := by
  have hr := hR.2.2.1
  obtain ⟨law, l1, l2⟩ := c_lawOf (G := G) hR.1.1.1 hR.1.1.2.2.2.2.1 hR.1.2.2.1.1 hr.2.2.1 hr.1 hR.2.2.2.1 hx
  refine ⟨law, l1, ?_, fun a ha => ?_⟩
  · rcases l2 with ⟨z1, z2⟩ | ⟨L, r, z1, z2, z3, z4⟩
    · exact Or.inl ⟨z1, by rw [h16]; exact z2⟩
    · obtain ⟨L2, u1, u2, u3, u4, u5, u6⟩ := hR.2.2.2.1 r z3
      have z5 := z4
      rw [u1] at z4; cases z4
      exact Or.inr ⟨L, r, z1, by rw [h16]; exact z2, by omega, u2, u3.cg hv, Or.inr (by omega), hR.2.2.2.1.djt hC.2.1 hCa.2.2.2.2.2 z3 z5⟩
  · rcases ha with ha | ⟨L, e1, ha⟩
    · exact ⟨Or.inl (by omega), by omega⟩
    · rcases l2 with ⟨z1, -⟩ | ⟨L2, r, z1, z2, z3, z4⟩
      · rw [z1] at e1; cases e1
      · rw [z1] at e1; cases e1
        obtain ⟨L3, u1, u2, u3, u4, u5, u6⟩ := hR.2.2.2.1 r z3
        rw [u1] at z4; cases z4
        exact ⟨Or.inr ⟨r, L, z3, u1, ha⟩, by unfold LSc at ha; omega⟩
theorem Fr.q {S : Nat → Prop} (hF : Fr S h h1) (hs : ∀ a, S a → Scr X R h a ∧ a ≠ X) : FrQ X R h h1 :=
  ⟨hF.1, hF.2.2.1, fun _ _ => by rw [hF.2.1], fun _ _ => by rw [hF.2.1], fun a q1 _ => hF.2.2.2 a (fun z => q1 (hs a z).1), fun k _ => by rw [(hF.2.2.2 X (fun z => (hs X z).2 rfl)).1], (hF.2.2.2 X (fun z => (hs X z).2 rfl)).2⟩
theorem dsum_add (a b d : MS) : ∀ n, dsum a b n + dsum b d n = dsum a d n
  | 0 => rfl
  | n + 1 => by
    unfold dsum
    rw [fs_snoc, fs_snoc, fs_snoc, Nat.zero_add]
    have ih := dsum_add a b d n
    unfold dsum at ih
    rw [← ih]
    generalize fs (fun j x => x + (b.1 12 j - a.1 12 j)) n 0 0 = p
    generalize fs (fun j x => x + (d.1 12 j - b.1 12 j)) n 0 0 = q
    rw [Int32.sub_eq_add_neg, Int32.sub_eq_add_neg, Int32.sub_eq_add_neg]
    have e : p + (b.1 12 n + -a.1 12 n) + (q + (d.1 12 n + -b.1 12 n)) = p + q + (d.1 12 n + -a.1 12 n) + (b.1 12 n + -b.1 12 n) := by
      simp only [Int32.add_assoc, Int32.add_comm, I_lc]
    rw [e, Int32.add_right_neg, Int32.add_zero]
/-- miles, both sides in step -/
theorem goes_at (hX : m_t h X = .inl 11) (h7 : m_r h X 7 = some (X + 34)) {law : Option Nat} : ∀ (d k n m : Nat) (h' : AH) (w' : MS) (N : Nat) (acc : Int32), k + d = N → N ≤ 240 → d < n → d < m → m_t h' = m_t h → m_r h' = m_r h → Cab h' (X + 34) t w'.1 → Sta w'.1 → LawOk h' (X + 34) t w'.1 law → (w'.1 1 10).toInt + d ≤ 240 → ∃ h2 w2, lq1 (F_X11_goTrial_2 G X law (nI N)) n (nI k) h' = some h2 ∧ lw2 (P_X12_goes_4 G (nI N)) m acc (nI k) w' = some (acc + dsum w' w2 (sN w'.1), w2) ∧ Cab h2 (X + 34) t w2.1 ∧ Sta w2.1 ∧ LawOk h2 (X + 34) t w2.1 law ∧ Fr (MSc (X + 34) law) h' h2 ∧ Fw MRw w' w2 ∧ (∀ i, i ≠ 10 → i ≠ 11 → i ≠ 13 → w2.1 1 i = w'.1 1 i) ∧ (w2.1 1 10).toInt = (w'.1 1 10).toInt + d
  | 0, k, n + 1, m + 1, h', w', N, acc, e, hN, _, _, ht, hr, hC, hS, hl, hm => by
    have ds : dsum w' w' (sN w'.1) = 0 := by
      unfold dsum
      have : ∀ d k, fs (fun j a => a + (w'.1 12 j - w'.1 12 j)) d k 0 = (0 : Int32) := by
        intro d
        induction d with
        | zero => intro k; rfl
        | succ d ih => intro k; show fs _ d (k + 1) (0 + (w'.1 12 k - w'.1 12 k)) = 0; rw [Int32.sub_self]; exact ih (k + 1)
      exact this _ _
    refine ⟨h', w', ?_, ?_, hC, hS, hl, Fr.rf, Fw.rf, fun _ _ _ _ => rfl, by simp⟩
    · show F_X11_goTrial_2 G X law (nI N) _ _ _ = _
      rw [F_X11_goTrial_2, if_pos (nI_le (by omega) (by omega))]
    · show P_X12_goes_4 G (nI N) _ _ _ _ = _
      rw [P_X12_goes_4, if_pos (nI_le (by omega) (by omega)), ds, Int32.add_zero]
  | d + 1, k, n + 1, m + 1, h', w', N, acc, e, hN, hn, hm', ht, hr, hC, hS, hl, hm => by
    obtain ⟨h2, w2, x, g1, g2, g3, g4, g5, g6, g7, g8, g9, g10, g11, g12⟩ := go_both (G := G) hC hS.1 hS.2.1 hS.2.2 (by omega) hl
    have i1 : (1 : Int32).toInt = 1 := rfl
    have gm : (w2.1 1 10).toInt = (w'.1 1 10).toInt + 1 := by
      rw [g11, I_add (by rw [i1]; have := (st_mile hS.1).1; omega) (by rw [i1]; omega), i1]
    obtain ⟨h3, w3, f1, f2, f3, f4, f5, f6, f7, f8, f9⟩ := goes_at hX h7 d (k + 1) n m h2 w2 N (acc + x) (by omega) hN (by omega) (by omega) (g8.1.trans ht) (g8.2.1.trans hr) g3 ⟨g4, g5, g6⟩ g7 (by omega)
    have en : sN w2.1 = sN w'.1 := by unfold sN; rw [g10 6 (by decide) (by decide) (by decide)]
    refine ⟨h3, w3, ?_, ?_, f3, f4, f5, g8.tr f6, g9.tr f7, fun i q1 q2 q3 => (f8 i q1 q2 q3).trans (g10 i q1 q2 q3), by rw [f9, gm]; omega⟩
    · show F_X11_goTrial_2 G X law (nI N) _ _ _ = _
      rw [F_X11_goTrial_2, if_neg (nI_ge (by omega) (by omega)), u_ck (by rw [ht]; exact hX), hr, h7, u_ob, u_ck (cab_t hC), g1, u_cb, u_nn, nI_1]
      exact f1
    · show P_X12_goes_4 G (nI N) _ _ _ _ = _
      rw [P_X12_goes_4, if_neg (nI_ge (by omega) (by omega)), g2, u_cw, u_nn, u_nn, nI_1, f2, en, g12, Int32.add_assoc, dsum_add]
theorem goes_both (hX : m_t h X = .inl 11) (h7 : m_r h X 7 = some (X + 34)) {law : Option Nat} {N : Nat} (hN : N ≤ 240) (hC : Cab h (X + 34) t w.1) (hS : Sta w.1) (hl : LawOk h (X + 34) t w.1 law) (hm : (w.1 1 10).toInt + N ≤ 240) : ∃ h2 w2, f_X11_goTrial G X law (nI N) h = some h2 ∧ p_X12_goes G (nI N) w = some (dsum w w2 (sN w.1), w2) ∧ Cab h2 (X + 34) t w2.1 ∧ Sta w2.1 ∧ LawOk h2 (X + 34) t w2.1 law ∧ Fr (MSc (X + 34) law) h h2 ∧ Fw MRw w w2 ∧ (∀ i, i ≠ 10 → i ≠ 11 → i ≠ 13 → w2.1 1 i = w.1 1 i) := by
  obtain ⟨h2, w2, f1, f2, f3, f4, f5, f6, f7, f8, f9⟩ := goes_at (G := G) hX h7 N 0 bN bN h w N 0 (Nat.zero_add _) hN (bN_gt (by omega)) (bN_gt (by omega)) rfl rfl hC hS hl hm
  rw [nI_0] at f1 f2
  refine ⟨h2, w2, f1, ?_, f3, f4, f5, f6, f7, f8⟩
  unfold p_X12_goes
  rw [f2, Int32.zero_add]
end
