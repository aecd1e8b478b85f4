/-! PURE 99ya: the reference reads on after a fault. -/
section
variable {G : GG} {X t N k n j p r c E C W m v2 M E1 : Nat} {T : Nat → Nat} {w w' w1 w2 wr wr' wr1 : MS} {f v1 : Int32} {wl : List (List Nat)}
/-- the reference has a fault, and stands somewhere -/
def AtF (N : Nat) (T : Nat → Nat) (w : MS) (f : Int32) : Prop := TxW N T w ∧ w.1 0 34 = f ∧ FO f ∧ f ≠ 0 ∧ w.1 0 41 = 13 ∧ ∃ p, w.1 0 33 = nI p ∧ p ≤ 402
def FrF (w w' : MS) : Prop := (∀ r, r ≠ 0 → w'.1 r = w.1 r) ∧ ∀ j, j ≠ 33 → j ≠ 39 → w'.1 0 j = w.1 0 j
theorem FrF.rf : FrF w w := ⟨fun _ _ => rfl, fun _ _ _ => rfl⟩
theorem FrF.tr (a : FrF w w1) (b : FrF w1 w') : FrF w w' := ⟨fun r h => (b.1 r h).trans (a.1 r h), fun j h1 h2 => (b.2 j h1 h2).trans (a.2 j h1 h2)⟩
theorem AtF.fr (h : AtF N T w f) (a : FrF w w') (hp : ∃ p, w'.1 0 33 = nI p ∧ p ≤ 402) : AtF N T w' f := ⟨h.1.cg (a.2 32 (by decide) (by decide)) (a.1 42 (by decide)), by rw [a.2 34 (by decide) (by decide)]; exact h.2.1, h.2.2.1, h.2.2.2.1, by rw [a.2 41 (by decide) (by decide)]; exact h.2.2.2.2.1, hp⟩
theorem AtF.s33 (h : AtF N T w f) {q : Nat} (hq : q ≤ 402) : AtF N T (w_si w 0 33 (nI q)) f ∧ FrF w (w_si w 0 33 (nI q)) := by
  have a : FrF w (w_si w 0 33 (nI q)) := ⟨fun r hr => w_si_r hr, fun j h1 _ => w_si_j h1⟩
  exact ⟨h.fr a ⟨q, w_si_s _ _ _ _, hq⟩, a⟩
theorem fl_F (h : AtF N T w f) (cc x : Int32) : ∃ w', p_X12_fails G cc x w = some w' ∧ AtF N T w' f ∧ FrF w w' ∧ w'.1 0 33 = w.1 0 33 := by
  obtain ⟨w', a1, a2, a3, a4⟩ := p_fails' (G := G) h.2.1 cc x
  rw [if_neg h.2.2.2.1] at a4
  have fr : FrF w w' := ⟨a2.1, fun j h1 _ => by
    by_cases y : j = 34
    · rw [y, a4]; exact h.2.1.symm
    · exact a2.2 j h1 y⟩
  obtain ⟨p, p1, p2⟩ := h.2.2.2.2.2
  exact ⟨w', a1, h.fr fr ⟨p, by rw [a3]; exact p1, p2⟩, fr, a3⟩
theorem ct_F (h : AtF N T w f) (x : Int32) : ∃ w', p_X12_isCounted G x w = some w' ∧ AtF N T w' f ∧ FrF w w' ∧ w'.1 0 33 = w.1 0 33 := by
  have st : ∀ (u : MS) (y : Int32), AtF N T u f → AtF N T (w_si u 0 39 y) f ∧ FrF u (w_si u 0 39 y) ∧ (w_si u 0 39 y).1 0 33 = u.1 0 33 := fun u y hu => by
    have a : FrF u (w_si u 0 39 y) := ⟨fun r hr => w_si_r hr, fun j _ h2 => w_si_j h2⟩
    obtain ⟨p, p1, p2⟩ := hu.2.2.2.2.2
    exact ⟨hu.fr a ⟨p, by rw [w_si_j (by decide)]; exact p1, p2⟩, a, w_si_j (by decide)⟩
  unfold p_X12_isCounted
  rw [u_nn]
  by_cases z : w.1 0 39 = 60
  · obtain ⟨w1, a1, a2, a3, a4⟩ := fl_F (G := G) h 3 x
    rw [if_pos z, a1, u_ob]
    dsimp only
    rw [u_nn]
    obtain ⟨b1, b2, b3⟩ := st w1 (w1.1 0 39 + 1) a2
    exact ⟨_, rfl, b1, a3.tr b2, b3.trans a4⟩
  · rw [if_neg z]
    dsimp only
    rw [u_nn]
    obtain ⟨b1, b2, b3⟩ := st w (w.1 0 39 + 1) h
    exact ⟨_, rfl, b1, b2, b3⟩
theorem bl_F (h : AtF N T w f) : ∃ w', p_X12_blanks G w = some w' ∧ AtF N T w' f ∧ FrF w w' := by
  obtain ⟨p, p1, p2⟩ := h.2.2.2.2.2
  have hN := h.1.1
  obtain ⟨e, e1, e2, e3⟩ := p_blanks_any (G := G) h.1 p1 (by omega)
  obtain ⟨a, b⟩ := h.s33 (q := e) (by omega)
  exact ⟨_, e3, a, b⟩
theorem valR_F (hG : GI G) (h : AtF N T w f) : ∃ w', p_X12_value G w = some w' ∧ AtF N T w' f ∧ FrF w w' := by
  obtain ⟨wb, a1, a2, a3⟩ := bl_F (G := G) h
  obtain ⟨p, p1, p2⟩ := a2.2.2.2.2.2
  have hN := a2.1.1
  have hdig := p_isDigit' (G := G) a2.1 p1 (by omega)
  unfold p_X12_value
  rw [a1, u_ob, u_nn, hdig, u_cw]
  by_cases hd : p < N ∧ isD (T p) = true
  · rw [if_pos hd, if_neg n10]
    have hle2 := rn_le isD T p (N - p)
    have dgt : ∃ y w2, p_X12_digits G 99999 wb = some (y, w2) ∧ AtF N T w2 f ∧ FrF wb w2 := by
      generalize hR : rn isD T p (N - p) = R at hle2
      have dl := fun b K => dig_loop (G := G) (T := T) (N := N) p b R hR hd.1 R 0 bN wb a2.1 (Nat.zero_add _) (bN_gt (by omega)) (by rw [Nat.add_zero]; exact p1) K
      obtain ⟨b1, b2⟩ := a2.s33 (q := p + R) (by omega)
      have fl := fl_F (G := G) b1 1 (nI p)
      obtain ⟨w3, c1, c2, c3, -⟩ := fl
      have dg : p_X12_digits G 99999 wb = (if (5 : Int32) < (w_si wb 0 33 (nI (p + R))).1 0 33 - nI p then (ob (p_X12_fails G 1 (nI p) (w_si wb 0 33 (nI (p + R)))) fun w17 => some (dv T p (min R 5), w17)) else if dv T p (min R 5) ≤ 99999 then some (dv T p (min R 5), w_si wb 0 33 (nI (p + R))) else ob (p_X12_fails G 1 (nI p) (w_si wb 0 33 (nI (p + R)))) fun w17 => some (dv T p (min R 5), w17)) := by
        unfold p_X12_digits
        rw [hdig, u_cw, if_pos hd, if_neg n10, p1, u_nn]
        refine (dl 99999 _).trans ?_
        rw [u_nn]
      rw [dg, c1, u_ob]
      split
      · exact ⟨_, _, rfl, c2, b2.tr c3⟩
      · split
        · exact ⟨_, _, rfl, b1, b2⟩
        · exact ⟨_, _, rfl, c2, b2.tr c3⟩
    obtain ⟨y, w2, d1, d2, d3⟩ := dgt
    obtain ⟨w3, e1, e2, e3, -⟩ := ct_F (G := G) d2 (wb.1 0 33)
    rw [d1, u_cw, e1, u_ob, p_entryF (by rw [e2.2.1]; exact e2.2.2.2.1), u_ob]
    exact ⟨w3, rfl, e2, (a3.tr d3).tr e3⟩
  · rw [if_neg hd, if_pos rfl]
    have vl := fun x K => v_loop hG a2.1 p1 a2.2.2.2.2.1 (by omega) x K 13 0 bN rfl (bN_gt (by decide))
    have b41 := a2.2.2.2.2.1
    cases h13 : ff (fun q => wd N T (wlR.getD q []) p) 13 0 with
    | none =>
      rw [h13] at vl
      obtain ⟨w3, e1, e2, e3, -⟩ := fl_F (G := G) a2 0 (wb.1 0 33)
      refine ⟨w3, (vl _ _).trans ?_, e2, a3.tr e3⟩
      dsimp only
      rw [b41, if_pos (show nI 13 = (13 : Int32) from rfl), e1, u_ob]
    | some j =>
      rw [h13] at vl
      obtain ⟨-, hj2, hj3, -⟩ := ff_some h13
      have hj : j < 13 := by omega
      obtain ⟨l1, l2, l3⟩ := wd_L hj3 (wlR_pos j (by show j < 18; omega))
      have lle := rn_le isL T p (N - p)
      have j13 : ¬ nI j = (13 : Int32) := fun q => by have := (nI_eq (a := j) (b := 13) (by omega) (by decide)).mp q; omega
      obtain ⟨w3, e1, e2, e3, e4⟩ := ct_F (G := G) a2 (wb.1 0 33)
      obtain ⟨g1, g2⟩ := e2.s33 (q := p + (wlR.getD j []).length) (by omega)
      refine ⟨_, (vl _ _).trans ?_, g1, (a3.tr e3).tr g2⟩
      dsimp only
      rw [b41, if_neg j13, e1, u_ob, t_wordR hj, u_cw, q_len hG (ws_R (by omega)).1, u_cw, e4, p1, (ws_R (show j < 18 by omega)).2.1, nI_add, u_nn, p_entryF (by rw [g1.2.1]; exact g1.2.2.2.1), u_ob]
theorem sumR_F (hG : GI G) (h : AtF N T w f) : ∃ w', p_X12_sum G w = some w' ∧ AtF N T w' f ∧ FrF w w' := by
  obtain ⟨w1, a1, a2, a3⟩ := valR_F (G := G) hG h
  obtain ⟨w2, b1, b2, b3⟩ := bl_F (G := G) a2
  obtain ⟨b, hb⟩ : ∃ b, bN = b + 1 := ⟨bN - 1, by have := bN_gt (d := 0) (by decide); omega⟩
  refine ⟨w2, ?_, b2, a3.tr b3⟩
  rw [sum_eR, a1, u_ob, b1, u_ob, hb]
  exact RT_F (by rw [b2.2.1]; exact b2.2.2.2.1)
end
