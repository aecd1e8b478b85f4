/-! PURE 99q: the reference's new train becomes its train. -/
section
variable {G : GG} {X t N k n j p q c : Nat} {T : Nat → Nat} {h h' h1 h2 : AH} {w w' w1 w2 wr wr' : MS} {v : VV}
theorem r1_loop : ∀ (d j n : Nat) (w : MS), j + d = 15 → d < n → ∃ w', (∀ K, lw1 (P_X12_train_21 G K) n (nI j) w = K w') ∧ (∀ r, r ≠ 1 → w'.1 r = w.1 r) ∧ ∀ i, w'.1 1 i = if j ≤ i ∧ i < 15 then (if i < 10 then w.1 20 i else 0) else w.1 1 i
  | 0, j, n + 1, w, e, _ => by
    refine ⟨w, fun K => ?_, fun _ _ => rfl, fun i => by rw [if_neg (by omega)]⟩
    show P_X12_train_21 G K _ _ _ = _
    rw [P_X12_train_21, if_pos (show (15 : Int32) ≤ nI j from nI_le (a := 15) (by omega) (by omega))]
  | d + 1, j, n + 1, w, e, hn => by
    obtain ⟨w', a1, a2, a3⟩ := r1_loop d (j + 1) n (w_si w 1 j (if j < 10 then w.1 20 j else 0)) (by omega) (by omega)
    refine ⟨w', fun K => ?_, fun r hr => (a2 r hr).trans (w_si_r hr), fun i => ?_⟩
    · show P_X12_train_21 G K _ _ _ = _
      rw [P_X12_train_21, if_neg (show ¬ (15 : Int32) ≤ nI j from nI_ge (b := 15) (by omega) (by omega)), u_nn]
      by_cases z : j < 10
      · rw [if_pos z] at a1
        rw [if_neg (show ¬ (10 : Int32) ≤ nI j from nI_ge (b := 10) (by omega) (by omega)), u_ck (u_ixn z (by decide))]
        dsimp only
        rw [u_ck (u_ixn (by omega) (by decide)), u_nn, nI_1, u_nn, nI_clamp (by omega)]
        exact a1 K
      · rw [if_neg z] at a1
        rw [if_pos (show (10 : Int32) ≤ nI j from nI_le (a := 10) (by omega) (by omega))]
        dsimp only
        rw [u_ck (u_ixn (by omega) (by decide)), u_nn, nI_1, u_nn, nI_clamp (by omega)]
        exact a1 K
    · rw [a3, w_si_r (show 20 ≠ 1 by decide), w_si_e]
      by_cases z : i = j
      · subst z
        rw [if_neg (show ¬ (i + 1 ≤ i ∧ i < 15) by omega), if_pos ⟨rfl, rfl⟩, if_pos (show i ≤ i ∧ i < 15 by omega)]
      · rw [if_neg (show ¬ (1 = 1 ∧ i = j) from fun q => z q.2)]
        by_cases y : j ≤ i ∧ i < 15
        · rw [if_pos (show j + 1 ≤ i ∧ i < 15 by omega), if_pos y]
        · rw [if_neg (show ¬ (j + 1 ≤ i ∧ i < 15) by omega), if_neg y]
theorem r2_loop : ∀ (d j n : Nat) (w : MS), j + d = 7 → d < n → ∃ w', (∀ K, lw1 (P_X12_train_217 G K) n (nI j) w = K w') ∧ (∀ r, r ≠ 2 → w'.1 r = w.1 r) ∧ ∀ i, w'.1 2 i = if j ≤ i ∧ i < 7 then w.1 1 2 else w.1 2 i
  | 0, j, n + 1, w, e, _ => by
    refine ⟨w, fun K => ?_, fun _ _ => rfl, fun i => by rw [if_neg (by omega)]⟩
    show P_X12_train_217 G K _ _ _ = _
    rw [P_X12_train_217, if_pos (show (7 : Int32) ≤ nI j from nI_le (a := 7) (by omega) (by omega))]
  | d + 1, j, n + 1, w, e, hn => by
    obtain ⟨w', a1, a2, a3⟩ := r2_loop d (j + 1) n (w_si w 2 j (w.1 1 2)) (by omega) (by omega)
    refine ⟨w', fun K => ?_, fun r hr => (a2 r hr).trans (w_si_r hr), fun i => ?_⟩
    · show P_X12_train_217 G K _ _ _ = _
      rw [P_X12_train_217, if_neg (show ¬ (7 : Int32) ≤ nI j from nI_ge (b := 7) (by omega) (by omega)), u_ck (show ixn 17 (2 : Int32) = true from rfl), u_ck (u_ixn (by omega) (by decide)), u_nn, nI_1, u_nn, nI_clamp (by omega)]
      exact a1 K
    · rw [a3, w_si_r (show 1 ≠ 2 by decide), w_si_e]
      by_cases z : i = j
      · subst z
        rw [if_neg (show ¬ (i + 1 ≤ i ∧ i < 7) by omega), if_pos ⟨rfl, rfl⟩, if_pos (show i ≤ i ∧ i < 7 by omega)]
      · rw [if_neg (show ¬ (2 = 2 ∧ i = j) from fun q => z q.2)]
        by_cases y : j ≤ i ∧ i < 7
        · rw [if_pos (show j + 1 ≤ i ∧ i < 7 by omega), if_pos y]
        · rw [if_neg (show ¬ (j + 1 ≤ i ∧ i < 7) by omega), if_neg y]
theorem r9_loop : ∀ (d j n : Nat) (w : MS), j + d = 8 → d < n → ∃ w', (∀ K, lw1 (P_X12_train_243 G K) n (nI j) w = K w') ∧ (∀ r, r ≠ 9 → r ≠ 10 → r ≠ 11 → r ≠ 12 → w'.1 r = w.1 r) ∧ (∀ i, i < j → w'.1 9 i = w.1 9 i ∧ w'.1 10 i = w.1 10 i ∧ w'.1 11 i = w.1 11 i ∧ w'.1 12 i = w.1 12 i) ∧ ∀ i, j ≤ i → i < 8 → w'.1 9 i = -1 ∧ w'.1 10 i = 0 ∧ w'.1 11 i = 0 ∧ w'.1 12 i = 0
  | 0, j, n + 1, w, e, _ => by
    refine ⟨w, fun K => ?_, fun _ _ _ _ _ => rfl, fun i _ => ⟨rfl, rfl, rfl, rfl⟩, fun i h1 h2 => by omega⟩
    show P_X12_train_243 G K _ _ _ = _
    rw [P_X12_train_243, if_pos (show (8 : Int32) ≤ nI j from nI_le (a := 8) (by omega) (by omega))]
  | d + 1, j, n + 1, w, e, hn => by
    obtain ⟨w', a1, a2, a3, a4⟩ := r9_loop d (j + 1) n (w_si (w_si (w_si (w_si w 9 j (-1)) 10 j 0) 11 j 0) 12 j 0) (by omega) (by omega)
    have x8 : ixn 8 (nI j) = true := u_ixn (by omega) (by decide)
    refine ⟨w', fun K => ?_, fun r h1 h2 h3 h4 => ?_, fun i hi => ?_, fun i h1 h2 => ?_⟩
    · show P_X12_train_243 G K _ _ _ = _
      rw [P_X12_train_243, if_neg (show ¬ (8 : Int32) ≤ nI j from nI_ge (b := 8) (by omega) (by omega)), nI_clamp (by omega), u_ck x8, u_nn, u_ck x8, u_nn, u_ck x8, u_nn, u_ck x8, u_nn, nI_1, u_nn]
      exact a1 K
    · rw [a2 r h1 h2 h3 h4, w_si_r h4, w_si_r h3, w_si_r h2, w_si_r h1]
    · have hij : i ≠ j := by omega
      obtain ⟨b1, b2, b3, b4⟩ := a3 i (by omega)
      rw [b1, b2, b3, b4, w_si_r (show 9 ≠ 12 by decide), w_si_r (show 9 ≠ 11 by decide), w_si_r (show 9 ≠ 10 by decide), w_si_j hij, w_si_r (show 10 ≠ 12 by decide), w_si_r (show 10 ≠ 11 by decide), w_si_j hij, w_si_r (show 10 ≠ 9 by decide), w_si_r (show 11 ≠ 12 by decide), w_si_j hij, w_si_r (show 11 ≠ 10 by decide), w_si_r (show 11 ≠ 9 by decide), w_si_j hij, w_si_r (show 12 ≠ 11 by decide), w_si_r (show 12 ≠ 10 by decide), w_si_r (show 12 ≠ 9 by decide)]
      exact ⟨rfl, rfl, rfl, rfl⟩
    · by_cases z : i = j
      · subst z
        obtain ⟨b1, b2, b3, b4⟩ := a3 i (by omega)
        rw [b1, b2, b3, b4, w_si_r (show 9 ≠ 12 by decide), w_si_r (show 9 ≠ 11 by decide), w_si_r (show 9 ≠ 10 by decide), w_si_s, w_si_r (show 10 ≠ 12 by decide), w_si_r (show 10 ≠ 11 by decide), w_si_s, w_si_r (show 11 ≠ 12 by decide), w_si_s, w_si_s]
        exact ⟨rfl, rfl, rfl, rfl⟩
      · exact a4 i (by omega) h2
/-- the rows of the new train -/
def NwT (w wq : MS) : Prop := (∀ i, i < 10 → wq.1 1 i = w.1 20 i) ∧ wq.1 1 10 = 0 ∧ wq.1 1 11 = w.1 20 1 ∧ wq.1 1 12 = w.1 20 2 ∧ wq.1 1 13 = w.1 20 4 ∧ wq.1 1 14 = 0 ∧ (∀ i, 15 ≤ i → wq.1 1 i = w.1 1 i) ∧ (∀ i, i < 7 → wq.1 2 i = w.1 20 2) ∧ (∀ r, 3 ≤ r → r ≤ 8 → ∀ i, i < 8 → wq.1 r i = w.1 (r + 18) i) ∧ (∀ r, 13 ≤ r → r ≤ 17 → ∀ i, i < 5 → wq.1 r i = w.1 (r + 14) i) ∧ (∀ i, i < 8 → wq.1 9 i = -1 ∧ wq.1 10 i = 0 ∧ wq.1 11 i = 0 ∧ wq.1 12 i = 0) ∧ ∀ r, r = 0 ∨ 18 ≤ r → wq.1 r = w.1 r
theorem cp {a b L : Nat} (ha : mok a = true) (hb : mok b = true) (hab : a ≠ b) (hl : mln a = L) (hl' : mln b = L) (hl2 : L ≤ 2000) (w : MS) : ∃ w', p_X12_copies G a b w = some w' ∧ (∀ r, r ≠ b → w'.1 r = w.1 r) ∧ ∀ i, i < L → w'.1 b i = w.1 a i := by
  obtain ⟨w', f1, f2, -, f4⟩ := p_copies (G := G) ha hb hab (hl.trans hl'.symm) (by omega) w
  exact ⟨w', f1, fun r hr => f2 r hr, fun i hi => by rw [f4, if_pos (by omega)]⟩
theorem p_train_ok (h34 : (w.1 0 34) = 0) : ∃ wq, NwT w wq ∧ ∀ P, p_X12_readsAll G P = some w → p_X12_train G P = (ob (p_X12_getIn G wq) fun w56 => nn (w_si w56 0 55 (0 : Int32)) fun w58 => ck (ixn 17 (6 : Int32) = true) <| some (w58.1 1 (6 : Int32).toNatClampNeg, w58)) := by
  obtain ⟨w1, a1, a2, a3⟩ := r1_loop (G := G) 15 0 bN w rfl (bN_gt (by decide))
  obtain ⟨b1, c1, c1', c1''⟩ := cp (G := G) (a := 21) (b := 3) (L := 8) (by decide) (by decide) (by decide) (by decide) (by decide) (by decide) w1
  obtain ⟨b2, c2, c2', c2''⟩ := cp (G := G) (a := 22) (b := 4) (L := 8) (by decide) (by decide) (by decide) (by decide) (by decide) (by decide) b1
  obtain ⟨b3, c3, c3', c3''⟩ := cp (G := G) (a := 23) (b := 5) (L := 8) (by decide) (by decide) (by decide) (by decide) (by decide) (by decide) b2
  obtain ⟨b4, c4, c4', c4''⟩ := cp (G := G) (a := 24) (b := 6) (L := 8) (by decide) (by decide) (by decide) (by decide) (by decide) (by decide) b3
  obtain ⟨b5, c5, c5', c5''⟩ := cp (G := G) (a := 25) (b := 7) (L := 8) (by decide) (by decide) (by decide) (by decide) (by decide) (by decide) b4
  obtain ⟨b6, c6, c6', c6''⟩ := cp (G := G) (a := 26) (b := 8) (L := 8) (by decide) (by decide) (by decide) (by decide) (by decide) (by decide) b5
  obtain ⟨b7, c7, c7', c7''⟩ := cp (G := G) (a := 27) (b := 13) (L := 5) (by decide) (by decide) (by decide) (by decide) (by decide) (by decide) b6
  obtain ⟨b8, c8, c8', c8''⟩ := cp (G := G) (a := 28) (b := 14) (L := 5) (by decide) (by decide) (by decide) (by decide) (by decide) (by decide) b7
  obtain ⟨b9, c9, c9', c9''⟩ := cp (G := G) (a := 29) (b := 15) (L := 5) (by decide) (by decide) (by decide) (by decide) (by decide) (by decide) b8
  obtain ⟨bA, cA, cA', cA''⟩ := cp (G := G) (a := 30) (b := 16) (L := 5) (by decide) (by decide) (by decide) (by decide) (by decide) (by decide) b9
  obtain ⟨bB, cB, cB', cB''⟩ := cp (G := G) (a := 31) (b := 17) (L := 5) (by decide) (by decide) (by decide) (by decide) (by decide) (by decide) bA
  have u1 : ∀ r, r < 3 → bB.1 r = w1.1 r := fun r hr => by rw [cB' r (by omega), cA' r (by omega), c9' r (by omega), c8' r (by omega), c7' r (by omega), c6' r (by omega), c5' r (by omega), c4' r (by omega), c3' r (by omega), c2' r (by omega), c1' r (by omega)]
  have u2 : ∀ r, 18 ≤ r → bB.1 r = w.1 r := fun r hr => by rw [cB' r (by omega), cA' r (by omega), c9' r (by omega), c8' r (by omega), c7' r (by omega), c6' r (by omega), c5' r (by omega), c4' r (by omega), c3' r (by omega), c2' r (by omega), c1' r (by omega), a2 r (by omega)]
  have u3 : ∀ r, 3 ≤ r → r ≤ 8 → ∀ i, i < 8 → bB.1 r i = w.1 (r + 18) i := fun r h1 h2 i hi => by
    obtain rfl | rfl | rfl | rfl | rfl | rfl : r = 3 ∨ r = 4 ∨ r = 5 ∨ r = 6 ∨ r = 7 ∨ r = 8 := by omega
    · rw [cB' 3 (by decide), cA' 3 (by decide), c9' 3 (by decide), c8' 3 (by decide), c7' 3 (by decide), c6' 3 (by decide), c5' 3 (by decide), c4' 3 (by decide), c3' 3 (by decide), c2' 3 (by decide), c1'' i hi, a2 21 (by decide)]
    · rw [cB' 4 (by decide), cA' 4 (by decide), c9' 4 (by decide), c8' 4 (by decide), c7' 4 (by decide), c6' 4 (by decide), c5' 4 (by decide), c4' 4 (by decide), c3' 4 (by decide), c2'' i hi, c1' 22 (by decide), a2 22 (by decide)]
    · rw [cB' 5 (by decide), cA' 5 (by decide), c9' 5 (by decide), c8' 5 (by decide), c7' 5 (by decide), c6' 5 (by decide), c5' 5 (by decide), c4' 5 (by decide), c3'' i hi, c2' 23 (by decide), c1' 23 (by decide), a2 23 (by decide)]
    · rw [cB' 6 (by decide), cA' 6 (by decide), c9' 6 (by decide), c8' 6 (by decide), c7' 6 (by decide), c6' 6 (by decide), c5' 6 (by decide), c4'' i hi, c3' 24 (by decide), c2' 24 (by decide), c1' 24 (by decide), a2 24 (by decide)]
    · rw [cB' 7 (by decide), cA' 7 (by decide), c9' 7 (by decide), c8' 7 (by decide), c7' 7 (by decide), c6' 7 (by decide), c5'' i hi, c4' 25 (by decide), c3' 25 (by decide), c2' 25 (by decide), c1' 25 (by decide), a2 25 (by decide)]
    · rw [cB' 8 (by decide), cA' 8 (by decide), c9' 8 (by decide), c8' 8 (by decide), c7' 8 (by decide), c6'' i hi, c5' 26 (by decide), c4' 26 (by decide), c3' 26 (by decide), c2' 26 (by decide), c1' 26 (by decide), a2 26 (by decide)]
  have u4 : ∀ r, 13 ≤ r → r ≤ 17 → ∀ i, i < 5 → bB.1 r i = w.1 (r + 14) i := fun r h1 h2 i hi => by
    have v6 : ∀ r, 18 ≤ r → b6.1 r = w.1 r := fun r hr => by rw [c6' r (by omega), c5' r (by omega), c4' r (by omega), c3' r (by omega), c2' r (by omega), c1' r (by omega), a2 r (by omega)]
    obtain rfl | rfl | rfl | rfl | rfl : r = 13 ∨ r = 14 ∨ r = 15 ∨ r = 16 ∨ r = 17 := by omega
    · rw [cB' 13 (by decide), cA' 13 (by decide), c9' 13 (by decide), c8' 13 (by decide), c7'' i hi, v6 27 (by decide)]
    · rw [cB' 14 (by decide), cA' 14 (by decide), c9' 14 (by decide), c8'' i hi, c7' 28 (by decide), v6 28 (by decide)]
    · rw [cB' 15 (by decide), cA' 15 (by decide), c9'' i hi, c8' 29 (by decide), c7' 29 (by decide), v6 29 (by decide)]
    · rw [cB' 16 (by decide), cA'' i hi, c9' 30 (by decide), c8' 30 (by decide), c7' 30 (by decide), v6 30 (by decide)]
    · rw [cB'' i hi, cA' 31 (by decide), c9' 31 (by decide), c8' 31 (by decide), c7' 31 (by decide), v6 31 (by decide)]
  have r1i : ∀ i, bB.1 1 i = if i < 15 then (if i < 10 then w.1 20 i else 0) else w.1 1 i := fun i => by rw [u1 1 (by decide), a3]; simp
  generalize hd1 : w_si bB 1 11 (bB.1 1 1) = d1
  have e1 : ∀ r, r ≠ 1 → d1.1 r = bB.1 r := fun r hr => by rw [← hd1]; exact w_si_r hr
  have e1i : ∀ i, d1.1 1 i = if i = 11 then bB.1 1 1 else bB.1 1 i := fun i => by rw [← hd1, w_si_e]; simp
  generalize hd2 : w_si d1 1 12 (d1.1 1 2) = d2
  have e2 : ∀ r, r ≠ 1 → d2.1 r = d1.1 r := fun r hr => by rw [← hd2]; exact w_si_r hr
  have e2i : ∀ i, d2.1 1 i = if i = 12 then d1.1 1 2 else d1.1 1 i := fun i => by rw [← hd2, w_si_e]; simp
  generalize hd3 : w_si d2 1 13 (d2.1 1 4) = d3
  have e3 : ∀ r, r ≠ 1 → d3.1 r = d2.1 r := fun r hr => by rw [← hd3]; exact w_si_r hr
  have e3i : ∀ i, d3.1 1 i = if i = 13 then d2.1 1 4 else d2.1 1 i := fun i => by rw [← hd3, w_si_e]; simp
  obtain ⟨f1, g1, g2, g3⟩ := r2_loop (G := G) 7 0 bN d3 rfl (bN_gt (by decide))
  obtain ⟨f2, k1, k2, k3, k4⟩ := r9_loop (G := G) 8 0 bN f1 rfl (bN_gt (by decide))
  have ar : ∀ r, r ≠ 1 → r ≠ 2 → r ≠ 9 → r ≠ 10 → r ≠ 11 → r ≠ 12 → f2.1 r = bB.1 r := fun r h1 h2 h3 h4 h5 h6 => by rw [k2 r h3 h4 h5 h6, g2 r h2, e3 r h1, e2 r h1, e1 r h1]
  have a1i : ∀ i, f2.1 1 i = if i = 13 then w.1 20 4 else if i = 12 then w.1 20 2 else if i = 11 then w.1 20 1 else if i < 15 then (if i < 10 then w.1 20 i else 0) else w.1 1 i := fun i => by
    rw [k2 1 (by decide) (by decide) (by decide) (by decide), g2 1 (by decide), e3i, e2i, e2i, e1i, e1i, e1i, r1i, r1i, r1i, r1i]
    rfl
  refine ⟨f2, ⟨fun i hi => ?_, ?_, ?_, ?_, ?_, ?_, fun i hi => ?_, fun i hi => ?_, fun r h1 h2 i hi => ?_, fun r h1 h2 i hi => ?_, fun i hi => k4 i (by omega) hi, fun r hr => ?_⟩, fun P hP => ?_⟩
  · rw [a1i, if_neg (by omega), if_neg (by omega), if_neg (by omega), if_pos (by omega), if_pos hi]
  · rw [a1i]; rfl
  · rw [a1i]; rfl
  · rw [a1i]; rfl
  · rw [a1i]; rfl
  · rw [a1i]; rfl
  · rw [a1i, if_neg (by omega), if_neg (by omega), if_neg (by omega), if_neg (by omega)]
  · rw [k2 2 (by decide) (by decide) (by decide) (by decide), g3, if_pos (by omega), e3i, if_neg (by decide), e2i, if_neg (by decide), e1i, if_neg (by decide), r1i]; rfl
  · rw [ar r (by omega) (by omega) (by omega) (by omega) (by omega) (by omega)]; exact u3 r h1 h2 i hi
  · rw [ar r (by omega) (by omega) (by omega) (by omega) (by omega) (by omega)]; exact u4 r h1 h2 i hi
  · rw [ar r (by omega) (by omega) (by omega) (by omega) (by omega) (by omega)]
    rcases hr with rfl | hr
    · rw [u1 0 (by decide), a2 0 (by decide)]
    · exact u2 r hr
  · unfold p_X12_train
    rw [hP, u_ob, if_pos (show w.1 0 34 ≤ 0 by rw [h34]; decide)]
    refine (a1 _).trans ?_
    rw [c1, u_ob, c2, u_ob, c3, u_ob, c4, u_ob, c5, u_ob, c6, u_ob, c7, u_ob, c8, u_ob, c9, u_ob, cA, u_ob, cB, u_ob, u_ck (show ixn 17 (1 : Int32) = true from rfl), u_ck ix_17_11, u_nn, u_ck (show ixn 17 (2 : Int32) = true from rfl), u_ck ix_17_12, u_nn, u_ck (show ixn 17 (4 : Int32) = true from rfl), u_ck ix_17_13, u_nn]
    rw [tn_11, tn_12, tn_13, show (1 : Int32).toNatClampNeg = 1 from rfl, show (2 : Int32).toNatClampNeg = 2 from rfl, show (4 : Int32).toNatClampNeg = 4 from rfl, hd1, hd2, hd3]
    refine (g1 _).trans ?_
    exact k1 _
end
