/-! PURE 99u: a value, on both sides. -/
section
variable {G : GG} {X t N k n j p r c E C W : Nat} {T : Nat → Nat} {w w' w1 w2 wr wr' wr1 : MS} {f : Int32} {wl : List (List Nat)}
theorem Syn.c6 (hs : Syn wl N T wr w k f) (e : ∀ r, r < 6 → wr'.1 r = wr.1 r) : Syn wl N T wr' w k f := by
  obtain ⟨a, b, c, d⟩ := hs
  refine ⟨⟨by rw [e 0 (by decide)]; exact a.1, fun q hq => by rw [e 2 (by decide), e 3 (by decide), e 4 (by decide)]; exact a.2 q hq⟩, ⟨b.1, by rw [e 0 (by decide)]; exact b.2.1, fun i hi => by rw [e 1 (by decide)]; exact b.2.2 i hi⟩, ⟨c.1, by rw [e 0 (by decide)]; exact c.2.1, by rw [e 0 (by decide)]; exact c.2.2.1, by rw [e 0 (by decide)]; exact c.2.2.2.1, by rw [e 0 (by decide)]; exact c.2.2.2.2⟩, d⟩
/-- what comes of it -/
def RvJ (G : GG) (y : Int32) (h : MS) : Option MS := if (h.1 0 9) = 0 then (ob (s_X3_write G y h) fun w4 => ob (s_X8_advance G w4) fun w6 => some w6) else some h
def RvC (G : GG) (y : Int32) (h : MS) : Option MS := if (h.1 6 3) ≤ (60 : Int32) then RvJ G y h else ob (s_X8_fail G (3 : Int32) h) fun w10 => RvJ G y w10
theorem rv_word (e7 : wr.1 0 7 = nI (300 + j)) (hj : j < 13) : s_X3_readValue G wr = RvC G (-nI (300 + j)) (w_si wr 6 3 ((wr.1 6 3) + 1)) := by
  have h1 : ¬ nI (300 + j) < (300 : Int32) := nI_nlt (b := 300) (by omega) (by omega)
  have h2 : ¬ (312 : Int32) < nI (300 + j) := nI_nlt (a := 312) (by omega) (by omega)
  unfold s_X3_readValue RvC RvJ
  simp only [u_nn, e7, if_neg h1, if_neg h2, if_neg n10]
theorem rv_num (e7 : wr.1 0 7 = 256) : s_X3_readValue G wr = if (w_si wr 6 3 ((wr.1 6 3) + 1)).1 0 8 = (-1 : Int32) then (ob (s_X8_fail G (1 : Int32) (w_si wr 6 3 ((wr.1 6 3) + 1))) fun w14 => RvJ G (w14.1 0 8) w14) else (if ((w_si wr 6 3 ((wr.1 6 3) + 1)).1 6 3) ≤ (60 : Int32) then RvJ G ((w_si wr 6 3 ((wr.1 6 3) + 1)).1 0 8) (w_si wr 6 3 ((wr.1 6 3) + 1)) else ob (s_X8_fail G (3 : Int32) (w_si wr 6 3 ((wr.1 6 3) + 1))) fun w10 => RvJ G (w10.1 0 8) w10) := by
  have h1 : (256 : Int32) < (300 : Int32) := by decide
  unfold s_X3_readValue RvJ
  simp only [u_nn, e7, if_pos h1, if_true]
theorem rv_bad {x : Int32} (e7 : wr.1 0 7 = x) (h : x < 300 ∨ 312 < x) (h2 : x ≠ 256) : s_X3_readValue G wr = ob (s_X8_fail G (0 : Int32) (w_si wr 6 3 ((wr.1 6 3) + 1))) fun w18 => RvJ G (w18.1 0 8) w18 := by
  unfold s_X3_readValue RvJ
  by_cases h1 : x < 300
  · simp only [u_nn, e7, if_pos h1, if_true, if_neg h2]
  · simp only [u_nn, e7, if_neg h1, if_pos (h.resolve_left h1), if_true, if_neg h2]
theorem rvj_F {y : Int32} (h : wr.1 0 9 ≠ 0) : RvJ G y wr = some wr := by unfold RvJ; rw [if_neg h]
/-- the class after a value, wherever it stood with a fault -/
theorem rv_F (hs : Syn wl N T wr w k f) (hf : f ≠ 0) : s_X3_readValue G wr = some (w_si wr 6 3 ((wr.1 6 3) + 1)) := by
  have e9 : (w_si wr 6 3 ((wr.1 6 3) + 1)).1 0 9 = f := by rw [w_si_r (by decide)]; exact hs.2.2.1.2.2.2.2
  have n9 : ¬ (w_si wr 6 3 ((wr.1 6 3) + 1)).1 0 9 = 0 := by rw [e9]; exact hf
  have fl : ∀ c : Int32, s_X8_fail G c (w_si wr 6 3 ((wr.1 6 3) + 1)) = some (w_si wr 6 3 ((wr.1 6 3) + 1)) := fun c => by unfold s_X8_fail; rw [if_neg n9]
  have fin : ∀ y : Int32, RvJ G y (w_si wr 6 3 ((wr.1 6 3) + 1)) = some (w_si wr 6 3 ((wr.1 6 3) + 1)) := fun y => rvj_F n9
  have cn : ∀ x : Int32, (300 : Int32) ≤ x ∧ x ≤ 312 → ∃ j, j < 13 ∧ x = nI (300 + j) := fun x hx => by
    have i3 : (300 : Int32).toInt = 300 := rfl
    have i4 : (312 : Int32).toInt = 312 := rfl
    have a := hx.1; have b := hx.2
    rw [I_le] at a b
    obtain ⟨q, h3, h4⟩ := bd_nI (x := x) (b := 312) ⟨by omega, by omega⟩
    have : x.toInt = q := by rw [h4]; exact nI_toInt (by omega)
    exact ⟨q - 300, by omega, by rw [show 300 + (q - 300) = q by omega]; exact h4⟩
  by_cases z : (300 : Int32) ≤ wr.1 0 7 ∧ wr.1 0 7 ≤ 312
  · obtain ⟨j, hj, e⟩ := cn _ z
    rw [rv_word e hj]
    unfold RvC
    split
    · exact fin _
    · rw [fl, u_ob]; exact fin _
  · by_cases y : wr.1 0 7 = 256
    · rw [rv_num y]
      split
      · rw [fl, u_ob]; exact fin _
      · split
        · exact fin _
        · rw [fl, u_ob]; exact fin _
    · rw [rv_bad rfl (by
        by_cases x : wr.1 0 7 < 300
        · exact Or.inl x
        · refine Or.inr ?_
          rw [I_lt] at x ⊢
          by_cases u : (312 : Int32).toInt < (wr.1 0 7).toInt
          · exact u
          · exact absurd ⟨by rw [I_le]; omega, by rw [I_le]; omega⟩ z) y, fl, u_ob]
      exact fin _
/-- the good end of a value -/
theorem val_end {wz : MS} (hs : Syn wl N T wr w k 0) (hg : Gd r c wr w E C) (hr : w.1 0 35 = nI r ∧ r < 6) (hE : E < 290) (hc : c ≤ 13) (hk : k < tK N T) (hC : C < 60) {a b y : Int32} (q1 : ∀ r, r ≠ 0 → wz.1 r = w.1 r) (q2 : ∀ j, j ≠ 33 → j ≠ 34 → j ≠ 39 → wz.1 0 j = w.1 0 j) (q3 : wz.1 0 39 = nI (C + 1)) (h34 : wz.1 0 34 = 0) (h33 : wz.1 0 33 = nI (tp N T k + ln N T (tp N T k))) : ∃ wr' w', RvJ G y (w_si wr 6 3 ((wr.1 6 3) + 1)) = some wr' ∧ p_X12_entry G a b wz = some w' ∧ Syn wl N T wr' w' (k + 1) 0 ∧ FrR r c E wr w wr' w' ∧ Gd r c wr' w' (E + 1) (C + 1) ∧ ent w'.1 r E = (a, b) ∧ wr'.1 7 (E + c) = y := by
  obtain ⟨g1, g2, g3, g4, g5⟩ := hg
  have hN := hs.2.2.2.1.1
  have w62 : (w_si wr 6 3 ((wr.1 6 3) + 1)).1 6 2 = nI (E + c) := by rw [w_si_j (by decide)]; exact g4
  have wr1 := w_write (G := G) w62 (show E + c < 400 by omega) y
  have hs1 : Syn wl N T (w_si (w_si (w_si wr 6 3 ((wr.1 6 3) + 1)) 7 (E + c) y) 6 2 (nI (E + c + 1))) w k 0 := hs.c6 (fun r hr => by rw [w_si_r (by omega), w_si_r (by omega), w_si_r (by omega)])
  obtain ⟨wr', b1, b2, b3, b4⟩ := adv_C (G := G) hN hs1.1 hs1.2.2.1 hk
  have te := tk_end hk
  have tl := tp_le (N := N) (T := T) (k + 1)
  have e7 : wr'.1 7 = (w_si (w_si (w_si wr 6 3 ((wr.1 6 3) + 1)) 7 (E + c) y) 6 2 (nI (E + c + 1))).1 7 := b2.1 7 (by decide)
  have e6 : wr'.1 6 = (w_si (w_si (w_si wr 6 3 ((wr.1 6 3) + 1)) 7 (E + c) y) 6 2 (nI (E + c + 1))).1 6 := b2.1 6 (by decide)
  refine ⟨wr', w_si (w_si (w_si wz 43 (300 * r + E) a) 44 (300 * r + E) b) 0 37 (nI (E + 1)), ?_, ?_, ⟨b3, tx_C hs1.2.1 b2, b4, ?_, ?_⟩, ⟨fun x y1 y2 y3 => ?_, fun j hj => ?_, fun j y1 y2 => ?_, fun j hj => ?_, fun x y1 y2 y3 => ?_, fun j y1 y2 y3 y5 => ?_, fun j hj => ?_⟩, ⟨?_, ?_, ?_, ?_, by omega⟩, ?_, ?_⟩
  · unfold RvJ
    rw [if_pos (show (w_si wr 6 3 ((wr.1 6 3) + 1)).1 0 9 = 0 by rw [w_si_r (by decide)]; exact hs.2.2.1.2.2.2.2), wr1, u_ob, b1, u_ob]
  · refine p_entry0 h34 ?_ ?_ hr.2 (by omega) a b
    · rw [q2 35 (by decide) (by decide) (by decide)]; exact hr.1
    · rw [q2 37 (by decide) (by decide) (by decide)]; exact g1
  · refine hs.2.2.2.1.cg ?_ ?_
    · rw [w_si_j (by decide), w_si_r (by decide), w_si_r (by decide), q2 32 (by decide) (by decide) (by decide)]
    · rw [w_si_r (by decide), w_si_r (by decide), w_si_r (by decide), q1 42 (by decide)]
  · refine ⟨?_, _, ?_, ⟨by omega, FO_0⟩, fun _ => ⟨te, tk_gap hk⟩⟩
    · rw [w_si_j (by decide), w_si_r (by decide), w_si_r (by decide)]; exact h34
    · rw [w_si_j (by decide), w_si_r (by decide), w_si_r (by decide)]; exact h33
  · rw [b2.1 x y1, w_si_r y2, w_si_r y3, w_si_r y2]
  · rw [b2.2 j hj, w_si_r (by decide), w_si_r (by decide), w_si_r (by decide)]
  · rw [e6, w_si_j y1, w_si_r (by decide), w_si_j y2]
  · rw [e7, w_si_r (by decide), w_si_j (by omega), w_si_r (by decide)]
  · rw [w_si_r y1, w_si_r y3, w_si_r y2, q1 x y1]
  · rw [w_si_j y3, w_si_r (by decide), w_si_r (by decide), q2 j y1 y2 y5]
  · rw [w_si_r (by decide), w_si_r (by decide), w_si_j (by omega), w_si_r (by decide), w_si_j (by omega), w_si_r (by decide), q1 43 (by decide), q1 44 (by decide)]; exact ⟨rfl, rfl⟩
  · exact w_si_s _ _ _ _
  · rw [w_si_j (by decide), w_si_r (by decide), w_si_r (by decide)]; exact q3
  · rw [e6, w_si_j (by decide), w_si_r (by decide), w_si_s, g3, nI_1]
  · rw [e6, w_si_s]; rw [show E + 1 + c = E + c + 1 by omega]
  · show ((w_si (w_si (w_si wz 43 (300 * r + E) a) 44 (300 * r + E) b) 0 37 (nI (E + 1))).1 43 (300 * r + E), (w_si (w_si (w_si wz 43 (300 * r + E) a) 44 (300 * r + E) b) 0 37 (nI (E + 1))).1 44 (300 * r + E)) = _
    rw [w_si_r (show 43 ≠ 0 by decide), w_si_r (show 43 ≠ 44 by decide), w_si_s, w_si_r (show 44 ≠ 0 by decide), w_si_s]
  · rw [e7, w_si_r (by decide), w_si_s]
/-- the bad end of a value -/
theorem val_bad {wz : MS} (hs : Syn wl N T wr w k 0) (hb : ∃ W, wr.1 6 2 = nI W ∧ W ≤ 400 ∧ E + c ≤ W) {cc : Nat} (hcc : cc ≤ 4) (q1 : ∀ r, r ≠ 0 → wz.1 r = w.1 r) (q2 : ∀ j, j ≠ 33 → j ≠ 34 → j ≠ 39 → wz.1 0 j = w.1 0 j) (h34 : wz.1 0 34 = ((1 : Int32) + (8 : Int32) * nI (tp N T k)) + nI cc) (h33 : ∃ q, wz.1 0 33 = nI q ∧ q ≤ 402) : ∃ wr', (∀ y, (ob (s_X8_fail G (nI cc) (w_si wr 6 3 ((wr.1 6 3) + 1))) fun w10 => RvJ G y w10) = some wr') ∧ (ob (s_X8_fail G (nI cc) (w_si wr 6 3 ((wr.1 6 3) + 1))) fun w10 => RvJ G (w10.1 0 8) w10) = some wr' ∧ Syn wl N T wr' wz k (flt N T k (nI cc)) ∧ flt N T k (nI cc) ≠ 0 ∧ FrR r c E wr w wr' wz ∧ ∃ W, wr'.1 6 2 = nI W ∧ W ≤ 400 ∧ E + c ≤ W := by
  have hN := hs.2.2.2.1.1
  have hs1 : Syn wl N T (w_si wr 6 3 ((wr.1 6 3) + 1)) w k 0 := hs.c6 (fun r hr => w_si_r (by omega))
  obtain ⟨wr', b1, b2, b3, b4⟩ := q_fail (G := G) hN hs1.1 hs1.2.2.1 (nI cc)
  rw [if_pos rfl] at b4
  have hne := flt_ne (N := N) (T := T) (k := k) hN hcc
  have n9 : wr'.1 0 9 ≠ 0 := by rw [b4.2.2.2.2]; exact hne
  obtain ⟨q, e1, e2⟩ := h33
  have e6 : wr'.1 6 = (w_si wr 6 3 ((wr.1 6 3) + 1)).1 6 := b2.1 6 (by decide)
  refine ⟨wr', fun y => by rw [b1, u_ob]; exact rvj_F n9, by rw [b1, u_ob]; exact rvj_F n9, ⟨b3, tx_C hs1.2.1 b2, b4, hs.2.2.2.1.cg (q2 32 (by decide) (by decide) (by decide)) (q1 42 (by decide)), h34, q, e1, ⟨e2, flt_FO hN hcc⟩, fun z => absurd z hne⟩, hne, ⟨fun x y1 y2 y3 => by rw [b2.1 x y1, w_si_r y2], fun j hj => by rw [b2.2 j hj, w_si_r (by decide)], fun j y1 y2 => by rw [e6, w_si_j y2], fun j _ => by rw [b2.1 7 (by decide), w_si_r (by decide)], fun x y1 _ _ => q1 x y1, fun j y1 y2 _ y5 => q2 j y1 y2 y5, fun j _ => by rw [q1 43 (by decide), q1 44 (by decide)]; exact ⟨rfl, rfl⟩⟩, ?_⟩
  obtain ⟨W, w1, w2⟩ := hb
  exact ⟨W, by rw [e6, w_si_j (by decide)]; exact w1, w2⟩
end
