/-! PURE 99y: a sum, the loop. -/
section
variable {G : GG} {X t N k n j p r c E C W m v2 M E1 : Nat} {T : Nat → Nat} {w w' w1 w2 wr wr' wr1 : MS} {f v1 : Int32} {wl : List (List Nat)}
def tiV (v1 : Int32) : List Bool := if v1 = 0 then [false] else [false, false]
/-- the sign that waits is written -/
theorem pend (hs : Syn wlR N T wr w k 0) (hg : Gd r c wr w E C) (hr : w.1 0 35 = nI r ∧ r < 6) (hc : c ≤ 13) (hM : M ≤ 285) (hv : v1 = 0 ∨ v1 = 43 ∨ v1 = 45) (hB : E + (if v1 = 0 then 0 else 1) + 2 * (60 - C) ≤ M) : ∃ wr1 w1 E1, (if v1 = 0 then some wr else s_X3_write G (-v1) wr) = some wr1 ∧ (∀ Z : MS → Option MS, (if v1 = 0 then Z w else ob (p_X12_entry G (scode v1) 0 w) Z) = Z w1) ∧ Syn wlR N T wr1 w1 k 0 ∧ FrR r c E wr w wr1 w1 ∧ Gd r c wr1 w1 E1 C ∧ E ≤ E1 ∧ E1 + 2 * (60 - C) ≤ M ∧ (∀ j, j ≠ 37 → w1.1 0 j = w.1 0 j) ∧ WrE r c wr1 w1 E E1 ∧ ∀ ts, tyR (tiV v1 ++ ts) (seg (ent w1.1 r) (E1 - E) E) = some (false :: ts) := by
  by_cases z : v1 = 0
  · rw [if_pos z] at hB ⊢
    refine ⟨wr, w, E, rfl, fun Z => by rw [if_pos z], hs, FrR.rf, hg, Nat.le_refl _, by omega, fun _ _ => rfl, fun i q1 q2 => by omega, fun ts => ?_⟩
    unfold tiV; rw [if_pos z, Nat.sub_self]; rfl
  · rw [if_neg z] at hB ⊢
    obtain ⟨wr', w', a1, a2, a3, a4, a5, a6, a7, a8, a9, a10, -⟩ := one_both (G := G) hs hg hr (by omega) (by omega) (a := scode v1) (b := 0) (y := -v1)
    have hv' := hv.resolve_left z
    have ec : encI (scode v1, 0) = -v1 := by rcases hv' with rfl | rfl <;> rfl
    have eo : scode v1 = 2 ∨ scode v1 = 3 := hv'.elim (fun q => Or.inl (by rw [q]; rfl)) (fun q => Or.inr (by rw [q]; rfl))
    refine ⟨wr', w', E + 1, a1, fun Z => by rw [if_neg z, a2, u_ob], a3, a4, a5, by omega, by omega, a10, fun i q1 q2 => ?_, fun ts => ?_⟩
    · have : i = E := by omega
      subst this
      rw [a6, a7]
      refine ⟨Or.inr (Or.inr (Or.inr ?_)), ec.symm⟩
      unfold isOp
      rcases eo with e | e <;> simp [e]
    · unfold tiV
      rw [if_neg z, show E + 1 - E = 1 by omega]
      show (match tyS (false :: false :: ts) (ent w'.1 r E) with | none => none | some u => tyR u []) = _
      rw [a6, ty_op (by rcases eo with e | e <;> simp [e])]
      rfl
theorem sm_loop (hG : GI G) (hc : c ≤ 13) (hM : M ≤ 285) (hr6 : r < 6) : ∀ (d k v2 m m1 m2 E C : Nat) (v1 : Int32) (wr w : MS), d ≤ 500 → tK N T ≤ k + d → v2 ≤ k → d < m → d < m1 → d < m2 → (v1 = 0 ∨ v1 = 43 ∨ v1 = 45) → Syn wlR N T wr w k 0 → w.1 0 33 = nI (tp N T k) → Gd r c wr w E C → w.1 0 41 = 13 → w.1 0 35 = nI r → E + (if v1 = 0 then 0 else 1) + 2 * (60 - C) ≤ M → SmE N T r c M wr w E C k (tiV v1) (lw2 (S_X3_readSum_8 G (KS G)) m v1 (nI v2) wr) (RT G m1 m2 v1 w)
  | d, k, v2, m + 1, m1 + 1, m2 + 1, E, C, v1, wr, w, h5, htk, hv2, hm, hm1, hm2, hv, hs, h33, hg, h41, h35, hB => by
    obtain ⟨hK, hXc, hC, hTw, hW⟩ := id hs
    have hN := hTw.1
    have tle := tp_le (N := N) (T := T) k
    have l20 : wlR.length ≤ 20 := by decide
    have e7 : wr.1 0 7 = syv wlR N T (tp N T k) := hC.2.2.1
    have e9 : wr.1 0 9 = 0 := hC.2.2.2.2
    have hK4 := tK_le N T
    have sb : ∀ d : Nat, d = 43 ∨ d = 45 ∨ d = 42 ∨ d = 47 ∨ d = 37 → (syv wlR N T (tp N T k) = nI d ↔ tp N T k < N ∧ T (tp N T k) = d) ∧ (tp N T k < N → T (tp N T k) = d → ln N T (tp N T k) = 1) := fun d hd => by
      rcases hd with rfl | rfl | rfl | rfl | rfl <;> exact sy_byte l20 hTw (by decide) (by decide) (by decide) (by decide)
    have h34 := hW.1
    by_cases cA : tp N T k < N ∧ (T (tp N T k) = 42 ∨ T (tp N T k) = 47 ∨ T (tp N T k) = 37)
    · -- times, by, rest
      obtain ⟨cA1, cA2⟩ := cA
      generalize hdd : T (tp N T k) = dd at cA2
      have hdd' : dd = 43 ∨ dd = 45 ∨ dd = 42 ∨ dd = 47 ∨ dd = 37 := by omega
      have ex : wr.1 0 7 = nI dd := e7.trans ((sb dd hdd').1.mpr ⟨cA1, hdd⟩)
      have hl := (sb dd hdd').2 cA1 hdd
      have hk : k < tK N T := (tp_K hC.1).mp cA1
      obtain ⟨d, rfl⟩ : ∃ q, d = q + 1 := ⟨d - 1, by omega⟩
      obtain ⟨m, rfl⟩ : ∃ q, m = q + 1 := ⟨m - 1, by omega⟩
      obtain ⟨m1, rfl⟩ : ∃ q, m1 = q + 1 := ⟨m1 - 1, by omega⟩
      have cl := c8_op (G := G) (K := KS G) (m := m + 1) (v1 := v1) e9 (show v2 < 400 by omega) ex (by rcases cA2 with q | q | q <;> subst q <;> simp [nI])
      have rf : RT G (m1 + 1 + 1) (m2 + 1) v1 w = ob (p_X12_value G (w_si w 0 33 (nI (tp N T k + 1)))) fun w13 => ob (p_X12_entry G (tcode dd) 0 w13) fun w15 => ob (p_X12_blanks G w15) fun w17 => RT G (m1 + 1) (m2 + 1) v1 w17 := by
        have t8 := t8_op (G := G) (m := m1 + 1) hTw h33 (by omega) h34 (d := dd) (by omega) ⟨cA1, hdd⟩
        unfold RT
        rw [t8]
        cases p_X12_value G (w_si w 0 33 (nI (tp N T k + 1))) with
        | none => rfl
        | some a =>
          rw [u_ob, u_ob]
          cases p_X12_entry G (tcode dd) 0 a with
          | none => rfl
          | some b =>
            rw [u_ob, u_ob]
            cases p_X12_blanks G b with
            | none => rfl
            | some e => rw [u_ob, u_ob]
      obtain ⟨wrA, wrB, wB, kB, fB, a1, a2, a3, a4, a5, a6, a7⟩ := adv_val (G := G) hG hs hg h41 ⟨h35, hr6⟩ (by omega) hc cA1 hl
      rw [a1, u_ob, a2, u_ob] at cl
      rw [a3, u_ob] at rf
      by_cases z : fB = 0
      · subst z
        obtain ⟨y1, y2, y3, y4, y5, y6, y7⟩ := a7 rfl
        have b35 : wB.1 0 35 = nI r := by rw [a5.2.2.2.2.2.1 35 (by decide) (by decide) (by decide) (by decide)]; exact h35
        have b41 : wB.1 0 41 = 13 := by rw [a5.2.2.2.2.2.1 41 (by decide) (by decide) (by decide) (by decide)]; exact h41
        obtain ⟨wrC, wC, b1, b2, b3, b4, b5, b6, b7, b8, b9, b10, -⟩ := one_both (G := G) a4 y4 ⟨b35, hr6⟩ (by omega) (by omega) (a := tcode dd) (b := 0) (y := -nI dd)
        rw [b1, u_ob] at cl
        rw [b2, u_ob, blanks_W b3.2.2.2.1 b3.2.2.2.2, u_ob] at rf
        have fW : FrW wC (w_si wC 0 33 (nI (tp N T kB))) := FrW.s (Or.inl rfl)
        have ih := sm_loop hG hc hM hr6 d kB (v2 + 1) (m + 1) (m1 + 1) (m2 + 1) (E + 1 + 1) (C + 1) v1 wrC (w_si wC 0 33 (nI (tp N T kB))) (by omega) (by omega) (by omega) (by omega) (by omega) (by omega) hv b3.bl (w_si_s _ _ _ _) (b5.of FrC.rf fW) (by rw [fW.2 41 (by decide) (by decide), b10 41 (by decide)]; exact b41) (by rw [fW.2 35 (by decide) (by decide), b10 35 (by decide)]; exact b35) (by omega)
        rw [← cl, ← rf] at ih
        have fD : FrR r c (E + 1) wrB wB wrC (w_si wC 0 33 (nI (tp N T kB))) := b4.tr (E' := E + 1) (FrR.of FrC.rf fW) (Nat.le_refl _)
        have entD : ∀ i, ent (w_si wC 0 33 (nI (tp N T kB))).1 r i = ent wC.1 r i := fun i => by unfold ent; rw [w_si_r (by decide), w_si_r (by decide)]
        have eE : ent (w_si wC 0 33 (nI (tp N T kB))).1 r E = ent wB.1 r E := ent_fr hr6 fD (by omega)
        have eo : tcode dd = 13 ∨ tcode dd = 14 ∨ tcode dd = 15 := by rcases cA2 with q | q | q <;> subst q <;> simp [tcode]
        have ec : encI (tcode dd, 0) = -nI dd := by rcases cA2 with q | q | q <;> subst q <;> rfl
        refine ih.pre hr6 (a5.tr fD (by omega)) (by omega) (by omega) (by omega) (fun i q1 q2 => ?_) (fun ts hts => ⟨by omega, ?_⟩)
        · by_cases y : i = E
          · subst y
            rw [eE, b4.2.2.2.1 (i + c) (by omega)]; exact ⟨y6, y7⟩
          · have : i = E + 1 := by omega
            subst this
            rw [entD, b6, b7]
            refine ⟨Or.inr (Or.inr (Or.inr ?_)), ec.symm⟩
            unfold isOp
            rcases eo with e | e | e <;> simp [e]
        · rw [show E + 1 + 1 - E = 2 by omega]
          have tf : ∃ rest, tiV v1 ++ ts = false :: rest ∧ rest.length + 1 = ts.length + (tiV v1).length := by
            unfold tiV
            split
            · exact ⟨ts, rfl, rfl⟩
            · exact ⟨false :: ts, rfl, rfl⟩
          obtain ⟨rest, t1, t2⟩ := tf
          rw [t1]
          show (match tyS (false :: rest) (ent (w_si wC 0 33 (nI (tp N T kB))).1 r E) with | none => none | some u => (match tyS u (ent (w_si wC 0 33 (nI (tp N T kB))).1 r (E + 1)) with | none => none | some u => tyR u [])) = _
          rw [eE, ty_val y5 (by show rest.length + 1 < 60; omega)]
          show (match tyS (false :: false :: rest) (ent (w_si wC 0 33 (nI (tp N T kB))).1 r (E + 1)) with | none => none | some u => tyR u []) = _
          rw [entD, b6, ty_op (by rcases eo with e | e | e <;> simp [e])]
          rfl
      · obtain ⟨wrC, b1, b2, b3, b4⟩ := any_F (G := G) (r := r) a4 a6 (-nI dd)
        rw [b1, u_ob] at cl
        obtain ⟨wD, d1, d2, d3⟩ := blanks_F (G := G) b2.2.2.2.1 b2.2.2.2.2 z
        rw [p_entryF (by rw [a4.2.2.2.2.1]; exact z), u_ob, d1, u_ob] at rf
        have hsD : Syn wlR N T wrC wD kB fB := ⟨b2.1, b2.2.1, b2.2.2.1, d2.tx b2.2.2.2.1, d3⟩
        have ih := sm_F (G := G) (r := r) (c := c) (E := E) (C := C) (M := M) (m := m) (m1 := m1) (m2 := m2) (k0 := k) (v1 := v1) hsD z b4 (tiV v1) (nI (v2 + 1))
        rw [← cl, ← rf] at ih
        exact ih.pre hr6 ((a5.tr b3 (Nat.le_refl _)).tr (FrR.of FrC.rf d2) (Nat.le_refl _)) (Nat.le_refl _) (Nat.le_refl _) (Nat.le_refl _) (fun i q1 q2 => by omega) (fun ts hts => ⟨hts, by rw [Nat.sub_self]; rfl⟩)
    · have nA : ∀ d : Nat, d = 42 ∨ d = 47 ∨ d = 37 → ¬ (tp N T k < N ∧ T (tp N T k) = d) := fun d hd q => cA ⟨q.1, by omega⟩
      have t8 := t8_no (G := G) (m := m1) hTw h33 (by omega) h34 (nA 42 (by omega)) (nA 47 (by omega)) (nA 37 (by omega))
      obtain ⟨wr1, w1, E1, p1, p2, p3, p4, p5, p6, p7, p8, p9, p10⟩ := pend (G := G) hs hg ⟨h35, hr6⟩ hc hM hv hB
      have rt : RT G (m1 + 1) (m2 + 1) v1 w = lw0 (P_X12_sum_4 G) (m2 + 1) w1 := by
        unfold RT
        rw [t8, u_ob]
        exact p2 _
      have q33 : w1.1 0 33 = nI (tp N T k) := by rw [p8 33 (by decide)]; exact h33
      have q34 : w1.1 0 34 = 0 := by rw [p8 34 (by decide)]; exact h34
      have q41 : w1.1 0 41 = 13 := by rw [p8 41 (by decide)]; exact h41
      have q35 : w1.1 0 35 = nI r := by rw [p8 35 (by decide)]; exact h35
      have toP : ∀ F P, SmE N T r c M wr1 w1 E1 C k [false] F P → SmE N T r c M wr w E C k (tiV v1) F P := fun F P hq => hq.pre hr6 p4 p6 (Nat.le_refl _) (Nat.le_refl _) p9 (fun ts hts => ⟨by
        have : 1 ≤ (tiV v1).length := by unfold tiV; split <;> decide
        show ts.length + 1 ≤ C
        omega, p10 ts⟩)
      rw [rt]
      by_cases cB : tp N T k < N ∧ (T (tp N T k) = 43 ∨ T (tp N T k) = 45)
      · obtain ⟨cB1, cB2⟩ := cB
        generalize hdd : T (tp N T k) = dd at cB2
        have hdd' : dd = 43 ∨ dd = 45 ∨ dd = 42 ∨ dd = 47 ∨ dd = 37 := by omega
        have ex : wr.1 0 7 = nI dd := e7.trans ((sb dd hdd').1.mpr ⟨cB1, hdd⟩)
        have hl := (sb dd hdd').2 cB1 hdd
        have hk : k < tK N T := (tp_K hC.1).mp cB1
        have hv' : nI dd = 43 ∨ nI dd = 45 := cB2.elim (fun q => Or.inl (by rw [q]; rfl)) (fun q => Or.inr (by rw [q]; rfl))
        have nz : ¬ nI dd = 0 := by rcases hv' with q | q <;> rw [q] <;> decide
        obtain ⟨d, rfl⟩ : ∃ q, d = q + 1 := ⟨d - 1, by omega⟩
        obtain ⟨m, rfl⟩ : ∃ q, m = q + 1 := ⟨m - 1, by omega⟩
        obtain ⟨m2, rfl⟩ : ∃ q, m2 = q + 1 := ⟨m2 - 1, by omega⟩
        have cl := c8_sg (G := G) (K := KS G) (m := m + 1) (v1 := v1) e9 (show v2 < 400 by omega) ex hv'
        rw [p1, u_ob] at cl
        have s4 := s4_op (G := G) (m := m2 + 1) p3.2.2.2.1 q33 (by omega) q34 (d := dd) cB2 ⟨cB1, hdd⟩
        have rf : lw0 (P_X12_sum_4 G) (m2 + 1 + 1) w1 = ob (p_X12_value G (w_si w1 0 33 (nI (tp N T k + 1)))) fun w13 => ob (p_X12_blanks G w13) fun w17 => RT G bN (m2 + 1) (nI dd) w17 := by
          rw [s4]
          unfold p_X12_term RT
          cases p_X12_value G (w_si w1 0 33 (nI (tp N T k + 1))) with
          | none => rfl
          | some a =>
            rw [u_ob, u_ob]
            cases p_X12_blanks G a with
            | none => rfl
            | some b => simp only [u_ob, if_neg nz]
        obtain ⟨wrA, wrB, wB, kB, fB, a1, a2, a3, a4, a5, a6, a7⟩ := adv_val (G := G) hG p3 p5 q41 ⟨q35, hr6⟩ (by omega) hc cB1 hl
        rw [a1, u_ob, a2, u_ob] at cl
        rw [a3, u_ob] at rf
        rw [rf, cl]
        refine toP _ _ ?_
        by_cases z : fB = 0
        · subst z
          obtain ⟨y1, y2, y3, y4, y5, y6, y7⟩ := a7 rfl
          rw [blanks_W a4.2.2.2.1 a4.2.2.2.2, u_ob]
          have fW : FrW wB (w_si wB 0 33 (nI (tp N T kB))) := FrW.s (Or.inl rfl)
          have f0 := a5.2.2.2.2.2.1
          have ih := sm_loop hG hc hM hr6 d kB (v2 + 1) (m + 1) bN (m2 + 1) (E1 + 1) (C + 1) (nI dd) wrB (w_si wB 0 33 (nI (tp N T kB))) (by omega) (by omega) (by omega) (by omega) (bN_gt (by omega)) (by omega) (Or.inr hv') a4.bl (w_si_s _ _ _ _) (y4.of FrC.rf fW) (by rw [fW.2 41 (by decide) (by decide), f0 41 (by decide) (by decide) (by decide) (by decide)]; exact q41) (by rw [fW.2 35 (by decide) (by decide), f0 35 (by decide) (by decide) (by decide) (by decide)]; exact q35) (by rw [if_neg nz]; omega)
          have entD : ∀ i, ent (w_si wB 0 33 (nI (tp N T kB))).1 r i = ent wB.1 r i := fun i => by unfold ent; rw [w_si_r (by decide), w_si_r (by decide)]
          refine ih.pre hr6 (a5.tr (FrR.of (E := E1) FrC.rf fW) (Nat.le_refl _)) (by omega) (by omega) (by omega) (fun i q1 q2 => ?_) (fun ts hts => ⟨?_, ?_⟩)
          · have : i = E1 := by omega
            subst this
            rw [entD]; exact ⟨y6, y7⟩
          · have hts' : ts.length + 1 ≤ C := hts
            unfold tiV; rw [if_neg nz]; show ts.length + 2 ≤ C + 1; omega
          · have hts' : ts.length + 1 ≤ C := hts
            rw [show E1 + 1 - E1 = 1 by omega]
            show (match tyS (false :: ts) (ent (w_si wB 0 33 (nI (tp N T kB))).1 r E1) with | none => none | some u => tyR u []) = _
            rw [entD, ty_val y5 (by show ts.length + 1 < 60; omega)]
            unfold tiV; rw [if_neg nz]; rfl
        · obtain ⟨wD, d1, d2, d3⟩ := blanks_F (G := G) a4.2.2.2.1 a4.2.2.2.2 z
          rw [d1, u_ob]
          have hsD : Syn wlR N T wrB wD kB fB := ⟨a4.1, a4.2.1, a4.2.2.1, d2.tx a4.2.2.2.1, d3⟩
          obtain ⟨b, hb⟩ : ∃ b, bN = b + 1 := ⟨bN - 1, by have := bN_gt (d := 0) (by decide); omega⟩
          rw [hb]
          have ih := sm_F (G := G) (r := r) (c := c) (E := E1) (C := C) (M := M) (m := m) (m1 := b) (m2 := m2) (k0 := k) (v1 := nI dd) hsD z a6 [false] (nI (v2 + 1))
          exact ih.pre hr6 (a5.tr (FrR.of (E := E1) FrC.rf d2) (Nat.le_refl _)) (Nat.le_refl _) (Nat.le_refl _) (Nat.le_refl _) (fun i q1 q2 => by omega) (fun ts hts => ⟨hts, by rw [Nat.sub_self]; rfl⟩)
      · have nB : ∀ d : Nat, d = 43 ∨ d = 45 → ¬ (tp N T k < N ∧ T (tp N T k) = d) := fun d hd q => cB ⟨q.1, by omega⟩
        have ne : ∀ d : Nat, d = 43 ∨ d = 45 ∨ d = 42 ∨ d = 47 ∨ d = 37 → wr.1 0 7 ≠ nI d := fun d hd q => by
          have := (sb d hd).1.mp (e7.symm.trans q)
          rcases hd with y | y | y | y | y
          · exact nB d (by omega) this
          · exact nB d (by omega) this
          · exact nA d (by omega) this
          · exact nA d (by omega) this
          · exact nA d (by omega) this
        have cl := c8_no (G := G) (K := KS G) (m := m) (v1 := v1) (x := nI v2) e9 ⟨ne 43 (by omega), ne 45 (by omega), ne 42 (by omega), ne 47 (by omega), ne 37 (by omega)⟩
        have ks : KS G v1 wr = some wr1 := by
          unfold KS
          by_cases z : v1 = 0
          · rw [if_pos z] at p1 ⊢; exact p1
          · rw [if_neg z] at p1 ⊢; rw [p1, u_ob]
        rw [cl, ks, s4_no (G := G) p3.2.2.2.1 q33 (by omega) q34 (nB 43 (by omega)) (nB 45 (by omega))]
        refine toP _ _ ⟨wr1, w1, k, 0, rfl, rfl, p3, FrR.rf, ⟨E1 + c, p5.2.2.2.1, by omega, Nat.le_refl _⟩, fun _ => ⟨E1, C, q33, Nat.le_refl _, p5, Nat.le_refl _, Nat.le_refl _, p7, fun i q1 q2 => by omega, fun ts _ => by rw [Nat.sub_self]; rfl⟩⟩
theorem sum_both (hG : GI G) (hs : Syn wlR N T wr w k 0) (hg : Gd r c wr w E C) (h41 : w.1 0 41 = 13) (h35 : w.1 0 35 = nI r) (hr6 : r < 6) (hc : c ≤ 13) (hM : M ≤ 285) (hB : E + 2 * (60 - C) ≤ M) : SmE N T r c M wr w E C k [] (s_X3_readSum G wr) (p_X12_sum G w) := by
  have hK4 := tK_le N T
  have hN := hs.2.2.2.1.1
  obtain ⟨wrB, wB, kB, fB, a1, a2, a4, a5, a6, a7⟩ := val_both (G := G) hG hs hg h41 ⟨h35, hr6⟩ (by omega) hc
  rw [sum_eC, sum_eR, a1, u_ob, a2, u_ob]
  by_cases z : fB = 0
  · subst z
    obtain ⟨y1, y2, y3, y4, y5, y6, y7⟩ := a7 rfl
    rw [blanks_W a4.2.2.2.1 a4.2.2.2.2, u_ob]
    have fW : FrW wB (w_si wB 0 33 (nI (tp N T kB))) := FrW.s (Or.inl rfl)
    have f0 := a5.2.2.2.2.2.1
    have ih := sm_loop (N := N) (T := T) hG hc hM hr6 (tK N T) kB 0 bN bN bN (E + 1) (C + 1) 0 wrB (w_si wB 0 33 (nI (tp N T kB))) (by omega) (by omega) (by omega) (bN_gt (by omega)) (bN_gt (by omega)) (bN_gt (by omega)) (Or.inl rfl) a4.bl (w_si_s _ _ _ _) (y4.of FrC.rf fW) (by rw [fW.2 41 (by decide) (by decide), f0 41 (by decide) (by decide) (by decide) (by decide)]; exact h41) (by rw [fW.2 35 (by decide) (by decide), f0 35 (by decide) (by decide) (by decide) (by decide)]; exact h35) (by rw [if_pos rfl]; omega)
    have entD : ∀ i, ent (w_si wB 0 33 (nI (tp N T kB))).1 r i = ent wB.1 r i := fun i => by unfold ent; rw [w_si_r (by decide), w_si_r (by decide)]
    refine SmE.pre (ti' := tiV 0) hr6 ih (a5.tr (FrR.of (E := E) FrC.rf fW) (Nat.le_refl _)) (by omega) (by omega) (by omega) (fun i q1 q2 => ?_) (fun ts hts => ⟨?_, ?_⟩)
    · have : i = E := by omega
      subst this
      rw [entD]; exact ⟨y6, y7⟩
    · have hts' : ts.length + 0 ≤ C := hts
      show ts.length + 1 ≤ C + 1; omega
    · have hts' : ts.length + 0 ≤ C := hts
      rw [show E + 1 - E = 1 by omega]
      show (match tyS ts (ent (w_si wB 0 33 (nI (tp N T kB))).1 r E) with | none => none | some u => tyR u []) = _
      rw [entD, ty_val y5 (by omega)]
      rfl
  · obtain ⟨wD, d1, d2, d3⟩ := blanks_F (G := G) a4.2.2.2.1 a4.2.2.2.2 z
    rw [d1, u_ob]
    have hsD : Syn wlR N T wrB wD kB fB := ⟨a4.1, a4.2.1, a4.2.2.1, d2.tx a4.2.2.2.1, d3⟩
    obtain ⟨b, hb⟩ : ∃ b, bN = b + 1 := ⟨bN - 1, by have := bN_gt (d := 0) (by decide); omega⟩
    rw [hb]
    have ih := sm_F (G := G) (r := r) (c := c) (E := E) (C := C) (M := M) (m := b) (m1 := b) (m2 := b) (k0 := k) (v1 := 0) hsD z a6 [] 0
    exact SmE.pre (ti' := []) hr6 ih (a5.tr (FrR.of (E := E) FrC.rf d2) (Nat.le_refl _)) (Nat.le_refl _) (Nat.le_refl _) (Nat.le_refl _) (fun i q1 q2 => by omega) (fun ts hts => ⟨hts, by rw [Nat.sub_self]; rfl⟩)
end
