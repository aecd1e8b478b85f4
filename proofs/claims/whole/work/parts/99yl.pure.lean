/-! PURE 99yl: open joints answered, on both sides. -/
def stk {α : Type} (lg o : Bool) (a b : α) (s : List α) : List α := cond lg (a :: cond o (b :: s) s) (cond o (b :: s) s)
theorem stk_len {α : Type} (lg o : Bool) (a b : α) (s : List α) : (stk lg o a b s).length = s.length + lg.toNat + o.toNat := by
  cases lg <;> cases o <;> rfl
theorem bN_i {i : Nat} (h : i ≤ 900) : bN = (bN - 1 - i) + 1 + i := by have := bN_gt (d := 901) (by decide); omega
theorem ent_33 {w : MS} {r j : Nat} {y : Int32} : ent (w_si w 0 j y).1 r = ent w.1 r := by
  funext i; unfold ent; rw [w_si_r (by decide), w_si_r (by decide)]
section
variable {G : GG} {N k r c E C dp nt x : Nat} {T : Nat → Nat} {w w' wr wr' : MS} {st : List Int32}
theorem FrT.rf : FrT r c E wr w wr w := FrR.rf.t
theorem FrT.b33 {y : Int32} : FrT r c E wr w wr (w_si w 0 33 y) := (FrR.of FrC.rf (FrW.s (Or.inl rfl))).t
theorem FrT.en (h : FrT r c E wr w wr' w') (hr : r < 6) {i : Nat} (hi : i < E) : ent w'.1 r i = ent w.1 r i := by
  have := h.2.2.2.2.2.2 (300 * r + i) (Or.inl (by omega))
  unfold ent; rw [this.1, this.2]
theorem WrE.frT {E0 : Nat} (hr : r < 6) (a : WrE r c wr w E0 E) (h : FrT r c E wr w wr' w') : WrE r c wr' w' E0 E := fun i q1 q2 => by
  rw [h.en hr q2, h.2.2.2.1 (i + c) (by omega)]; exact a i q1 q2
theorem TI.bl (h : TI N T r c dp st wr w k E C nt x) : TI N T r c dp st wr (w_si w 0 33 (nI (tp N T k))) k E C nt x := by
  obtain ⟨hs, hg, ⟨h41, h35, hr6, hc⟩, h38, ho, hl, hB, hnt⟩ := h
  have fW : FrW w (w_si w 0 33 (nI (tp N T k))) := FrW.s (Or.inl rfl)
  exact ⟨hs.bl, hg.of FrC.rf fW, ⟨by rw [fW.2 41 (by decide) (by decide)]; exact h41, by rw [fW.2 35 (by decide) (by decide)]; exact h35, hr6, hc⟩, by rw [fW.2 38 (by decide) (by decide)]; exact h38, ho.cg (fW.2 40 (by decide) (by decide)) (fW.1 49 (by decide)), hl, hB, hnt⟩
/-- a joint that may wait is written on both sides -/
theorem popo {a y : Int32} (hay : (a = 10 ∧ y = -316) ∨ (a = 11 ∧ y = -315)) (b : Bool) (hst : st.headD (-1) ≠ a) (h : TI N T r c dp (cond b (a :: st) st) wr w k E C nt 0) : ∃ wr' w', (if b = true then s_X3_write G y wr else some wr) = some wr' ∧ p_X12_answers G a w = some w' ∧ TI N T r c dp st wr' w' k (E + b.toNat) C nt 0 ∧ FrT r c E wr w wr' w' ∧ w'.1 0 33 = w.1 0 33 ∧ (∀ x, x < 6 → wr'.1 x = wr.1 x) ∧ (∀ E0, WrE r c wr w E0 E → WrE r c wr' w' E0 (E + b.toNat)) ∧ ∀ E0 ts u, E0 ≤ E → tyR ts (seg (ent w.1 r) (E - E0) E0) = some (true :: cond b (true :: u) u) → tyR ts (seg (ent w'.1 r) (E + b.toNat - E0) E0) = some (true :: u) := by
  cases b with
  | false =>
    refine ⟨wr, w, if_neg (by decide), ?_, h, FrT.rf, rfl, fun _ _ => rfl, fun _ q => q, fun _ _ _ _ q => q⟩
    unfold p_X12_answers
    rw [bN_i (i := 0) (by decide)]
    exact an_no h.2.2.2.2.1 hst
  | true =>
    obtain ⟨t1, t2, ⟨t3, t4, t5, t6⟩, t7, t8, t9, t10, t11⟩ := h
    have hN := t1.2.2.2.1.1
    have n133 := nt_le t11 hN
    have pd : pdg (a :: st) = pdg st + 1 := by rcases hay with ⟨rfl, -⟩ | ⟨rfl, -⟩ <;> rfl
    have t10 : E + pdg (a :: st) + 2 * (60 - C) ≤ 120 + nt + 0 := t10
    have t9 : st.length + 1 ≤ k := t9
    rw [pd] at t10
    have na : ¬ a = 9 := by rcases hay with ⟨rfl, -⟩ | ⟨rfl, -⟩ <;> decide
    obtain ⟨wr3, w3, o1, o2, o3, o4, o5, o6, o7, o8, o9, o10, o11⟩ := pop_both (G := G) (y := y) t1 t2 t4 t5 (by omega) (by omega) t8
    rw [if_neg na] at o7
    have enc : EV (a, (0 : Int32)) ∧ y = encI (a, 0) := by
      rcases hay with ⟨rfl, rfl⟩ | ⟨rfl, rfl⟩
      · exact ⟨Or.inr (Or.inr (Or.inr (by unfold isOp; simp))), rfl⟩
      · exact ⟨Or.inr (Or.inr (Or.inr (by unfold isOp; simp))), rfl⟩
    refine ⟨wr3, w3, by rw [if_pos rfl]; exact o1, ?_, ⟨o3, o5, ⟨?_, ?_, t5, t6⟩, ?_, o6, by omega, ?_, t11⟩, o4, o10, o11, fun E0 hw q u1 u2 => ?_, fun E0 ts u hE0 hty => ?_⟩
    · unfold p_X12_answers
      rw [bN_i (i := 1) (by decide), o2]
      exact an_no o6 hst
    · rw [o4.2.2.2.2.2.1 41 (by decide) (by decide) (by decide) (by decide) (by decide) (by decide)]; exact t3
    · rw [o4.2.2.2.2.2.1 35 (by decide) (by decide) (by decide) (by decide) (by decide) (by decide)]; exact t4
    · rw [o7, t7]; exact Int32.sub_zero _
    · show E + 1 + pdg st + 2 * (60 - C) ≤ 120 + nt + 0; omega
    · have u2 : q < E + 1 := u2
      by_cases z : q < E
      · rw [o4.en t5 z, o4.2.2.2.1 (q + c) (by omega)]; exact hw q u1 z
      · have : q = E := by omega
        subst this
        rw [o8, o9]; exact enc
    · show tyR ts (seg (ent w3.1 r) (E + 1 - E0) E0) = _
      have hty : tyR ts (seg (ent w.1 r) (E - E0) E0) = some (true :: true :: u) := hty
      rw [show E + 1 - E0 = (E - E0) + 1 by omega, seg_add, show E0 + (E - E0) = E by omega, tyR_app _ _ _ (true :: true :: u)]
      · show (match tyS (true :: true :: u) (ent w3.1 r E) with | none => none | some u => tyR u []) = _
        rw [o8]
        rcases hay with ⟨rfl, -⟩ | ⟨rfl, -⟩ <;> rfl
      · rw [seg_cg (es := ent w.1 r) (fun q u1 u2 => o4.en t5 (by omega))]; exact hty
/-- a joint's word passed over -/
theorem joint_adv {a : Int32} (ha : a = 10 ∨ a = 11) {q l : Nat} (hq : q < 18) (zq : wd N T (wlR.getD q []) (tp N T k) = true) (hl : (wlR.getD q []).length = l) (h : TI N T r c dp st wr w k E C nt 0) (e33 : w.1 0 33 = nI (tp N T k)) : ∃ w17 wrA, p_X12_opens G a w = some w17 ∧ s_X8_advance G wr = some wrA ∧ FrT r c E wr w wrA (w_si w17 0 33 (w17.1 0 33 + nI l)) ∧ ent (w_si w17 0 33 (w17.1 0 33 + nI l)).1 r = ent w.1 r ∧ wrA.1 7 = wr.1 7 ∧ k < tK N T ∧ TI N T r c dp (a :: st) wrA (w_si w17 0 33 (w17.1 0 33 + nI l)) (k + 1) E C nt 1 := by
  obtain ⟨hs, hg, ⟨h41, h35, hr6, hc⟩, h38, ho, hlen, hB, hnt⟩ := h
  obtain ⟨hK, hXc, hC, hTw, hW⟩ := id hs
  have hN := hTw.1
  have hK4 := tK_le N T
  have hk4 := hC.1
  obtain ⟨l1, l2, l3⟩ := wd_L zq (wlR_pos q hq)
  have hln : ln N T (tp N T k) = l := by unfold ln; rw [if_neg (L_D l2), if_pos l2, l3]; exact hl
  have hk : k < tK N T := (tp_K hC.1).mp l1
  have opn := p_opJ (G := G) ho (by omega) ha
  have oP := ho.push (by omega) a
  generalize hw17 : w_si (w_si w 49 st.length a) 0 40 (nI (st.length + 1)) = w17 at opn oP
  have c1 : ∀ x, x ≠ 0 → x ≠ 49 → w17.1 x = w.1 x := fun x u1 u2 => by rw [← hw17, w_si_r u1, w_si_r u2]
  have c2 : ∀ j, j ≠ 40 → w17.1 0 j = w.1 0 j := fun j u4 => by rw [← hw17, w_si_j u4, w_si_r (by decide)]
  have e3 : w17.1 0 33 + nI l = nI (tp N T k + l) := by rw [c2 33 (by decide), e33]; exact nI_add (tp N T k) l
  have d0 : ∀ j, j ≠ 33 → (w_si w17 0 33 (nI (tp N T k + l))).1 0 j = w17.1 0 j := fun j u => w_si_j u
  have dr : ∀ x, x ≠ 0 → (w_si w17 0 33 (nI (tp N T k + l))).1 x = w17.1 x := fun x u => w_si_r u
  have d33 : (w_si w17 0 33 (nI (tp N T k + l))).1 0 33 = nI (tp N T k + l) := w_si_s _ _ _ _
  refine ⟨w17, ?_⟩
  rw [e3]
  generalize w_si w17 0 33 (nI (tp N T k + l)) = w1 at d0 dr d33
  obtain ⟨wrA, a1, a2, a3⟩ := word_adv (G := G) hs hk hln (w1 := w1) (by rw [d0 32 (by decide), c2 32 (by decide)]) (by rw [dr 42 (by decide), c1 42 (by decide) (by decide)]) (by rw [d0 34 (by decide), c2 34 (by decide)]; exact hW.1) d33
  have w0 : ∀ j, j ≠ 33 → j ≠ 40 → w1.1 0 j = w.1 0 j := fun j u1 u4 => by rw [d0 j u1, c2 j u4]
  have wr0 : ∀ x, x ≠ 0 → x ≠ 49 → w1.1 x = w.1 x := fun x u1 u2 => by rw [dr x u1, c1 x u1 u2]
  have pd : pdg (a :: st) = pdg st + 1 := by rcases ha with rfl | rfl <;> rfl
  have tm := tp_mono (N := N) (T := T) (show k ≤ k + 1 by omega)
  refine ⟨wrA, opn, a1, ⟨fun x u1 _ _ => a2.1 x u1, a2.2, fun j _ _ => by rw [a2.1 6 (by decide)], fun j _ => by rw [a2.1 7 (by decide)], fun x u1 _ _ u4 => wr0 x u1 u4, fun j u1 u2 _ u4 _ u6 => w0 j u1 u6, fun j _ => by rw [wr0 43 (by decide) (by decide), wr0 44 (by decide) (by decide)]; exact ⟨rfl, rfl⟩⟩, ?_, a2.1 7 (by decide), hk, a3, ⟨by rw [w0 37 (by decide) (by decide)]; exact hg.1, by rw [w0 39 (by decide) (by decide)]; exact hg.2.1, by rw [a2.1 6 (by decide)]; exact hg.2.2.1, by rw [a2.1 6 (by decide)]; exact hg.2.2.2.1, hg.2.2.2.2⟩, ⟨by rw [w0 41 (by decide) (by decide)]; exact h41, by rw [w0 35 (by decide) (by decide)]; exact h35, hr6, hc⟩, by rw [w0 38 (by decide) (by decide)]; exact h38, oP.cg (d0 40 (by decide)) (dr 49 (by decide)), by show st.length + 1 ≤ k + 1; omega, by rw [pd]; omega, by omega⟩
  funext i; unfold ent; rw [wr0 43 (by decide) (by decide), wr0 44 (by decide) (by decide)]
end
