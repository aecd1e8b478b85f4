/-! PURE 99yk: a fact that is a not. -/
section
variable {G : GG} {N k r c E C dp nt x : Nat} {T : Nat → Nat} {w w' wr wr' : MS} {st : List Int32} {v1 : Int32} {rf : Int32 → MS → Option MS}
theorem nt_le (h : 3 * nt ≤ tp N T k) (hN : N ≤ 400) : nt ≤ 133 := by have := tp_le (N := N) (T := T) k; omega
theorem fact_not (hG : GI G) (hd : dp < 10) (h : TI N T r c dp st wr w k E C nt 1) (hx : wr.1 0 7 = 317) (IH : ∀ wr1 w1 nt1, TI N T r c (dp + 1) (9 :: st) wr1 w1 (k + 1) E C nt1 1 → FcE G N T r c (dp + 1) (9 :: st) wr1 w1 (k + 1) E C (rf (nI (dp + 1)) wr1)) : FcE G N T r c dp st wr w k E C (s_X3_readFact_o G rf (nI dp) wr) := by
  obtain ⟨hs, hg, ⟨h41, h35, hr6, hc⟩, h38, ho, hl, hB, hnt⟩ := h
  obtain ⟨hK, hXc, hC, hTw, hW⟩ := id hs
  have hN := hTw.1
  have hK4 := tK_le N T
  have hk4 := hC.1
  have tle := tp_le (N := N) (T := T) k
  have bl := blanks_W (G := G) hTw hW
  have fW : FrW w (w_si w 0 33 (nI (tp N T k))) := FrW.s (Or.inl rfl)
  have hsb := hs.bl
  have f33 : (w_si w 0 33 (nI (tp N T k))).1 0 33 = nI (tp N T k) := w_si_s _ _ _ _
  have f34 : (w_si w 0 33 (nI (tp N T k))).1 0 34 = 0 := hsb.2.2.2.2.1
  have hTb := hsb.2.2.2.1
  have e7 : wr.1 0 7 = syv wlR N T (tp N T k) := hC.2.2.1
  have st22 := p_stood' (G := G) hG (ws_R (j := 17) (by decide)) hTb f33 (by omega)
  have obb : OS (w_si w 0 33 (nI (tp N T k))) st := ho.cg (fW.2 40 (by decide) (by decide)) (fW.1 49 (by decide))
  have b38 : (w_si w 0 33 (nI (tp N T k))).1 0 38 = nI dp := by rw [fW.2 38 (by decide) (by decide)]; exact h38
  have zw : wd N T (wlR.getD 17 []) (tp N T k) = true := (sy_wd (N := N) (T := T) (p := tp N T k) (k := k) (w := w) (j := 17) (by decide) hTw).mp (e7.symm.trans hx)
  obtain ⟨l1, l2, l3⟩ := wd_L zw (wlR_pos 17 (by decide))
  have hln : ln N T (tp N T k) = 3 := by unfold ln; rw [if_neg (L_D l2), if_pos l2, l3]; rfl
  have hk : k < tK N T := (tp_K hC.1).mp l1
  have te := tk_end hk
  rw [hln] at te
  have tl := tp_le (N := N) (T := T) (k + 1)
  rw [if_pos zw] at st22
  generalize hwb : w_si w 0 33 (nI (tp N T k)) = wb at bl fW hsb f33 f34 hTb st22 obb b38
  have opn := p_opN (G := G) obb (by omega) (a := 9) (Or.inl rfl) b38 hd
  have fct := fr_not bl st22 opn
  have oW : OS (w_si wb 0 38 (nI (dp + 1))) st := obb.cg (w_si_j (by decide)) (w_si_r (by decide))
  have oP := oW.push (by omega) 9
  generalize hw16 : w_si (w_si (w_si wb 0 38 (nI (dp + 1))) 49 st.length 9) 0 40 (nI (st.length + 1)) = w16 at fct oP
  have c1 : ∀ x, x ≠ 0 → x ≠ 49 → w16.1 x = w.1 x := fun x u1 u2 => by rw [← hw16, w_si_r u1, w_si_r u2, w_si_r u1, fW.1 x u1]
  have c2 : ∀ j, j ≠ 33 → j ≠ 34 → j ≠ 38 → j ≠ 40 → w16.1 0 j = w.1 0 j := fun j u1 u2 u3 u4 => by rw [← hw16, w_si_j u4, w_si_r (by decide), w_si_j u3, fW.2 j u1 u2]
  have c33 : w16.1 0 33 = nI (tp N T k) := by rw [← hw16, w_si_j (by decide), w_si_r (by decide), w_si_j (by decide)]; exact f33
  have c34 : w16.1 0 34 = 0 := by rw [← hw16, w_si_j (by decide), w_si_r (by decide), w_si_j (by decide)]; exact f34
  have c38 : w16.1 0 38 = nI (dp + 1) := by rw [← hw16, w_si_j (by decide), w_si_r (by decide), w_si_s]
  have e3 : w16.1 0 33 + 3 = nI (tp N T k + 3) := by rw [c33]; exact nI_add (tp N T k) 3
  rw [e3] at fct
  have d0 : ∀ j, j ≠ 33 → (w_si w16 0 33 (nI (tp N T k + 3))).1 0 j = w16.1 0 j := fun j u => w_si_j u
  have dr : ∀ x, x ≠ 0 → (w_si w16 0 33 (nI (tp N T k + 3))).1 x = w16.1 x := fun x u => w_si_r u
  have d33 : (w_si w16 0 33 (nI (tp N T k + 3))).1 0 33 = nI (tp N T k + 3) := w_si_s _ _ _ _
  generalize w_si w16 0 33 (nI (tp N T k + 3)) = w1 at fct d0 dr d33
  obtain ⟨wrA, a1, a2, a3⟩ := word_adv (G := G) hs hk hln (w1 := w1) (by rw [d0 32 (by decide), c2 32 (by decide) (by decide) (by decide) (by decide)]) (by rw [dr 42 (by decide), c1 42 (by decide) (by decide)]) (by rw [d0 34 (by decide)]; exact c34) d33
  have w0 : ∀ j, j ≠ 33 → j ≠ 34 → j ≠ 38 → j ≠ 40 → w1.1 0 j = w.1 0 j := fun j u1 u2 u3 u4 => by rw [d0 j u1, c2 j u1 u2 u3 u4]
  have wr0 : ∀ x, x ≠ 0 → x ≠ 49 → w1.1 x = w.1 x := fun x u1 u2 => by rw [dr x u1, c1 x u1 u2]
  have frA : FrT r c E wr w wrA w1 := ⟨fun x u1 _ _ => a2.1 x u1, a2.2, fun j _ _ => by rw [a2.1 6 (by decide)], fun j _ => by rw [a2.1 7 (by decide)], fun x u1 _ _ u4 => wr0 x u1 u4, fun j u1 u2 _ u4 _ u6 => w0 j u1 u2 u4 u6, fun j _ => by rw [wr0 43 (by decide) (by decide), wr0 44 (by decide) (by decide)]; exact ⟨rfl, rfl⟩⟩
  have pd9 : pdg (9 :: st) = pdg st + 1 := rfl
  have ti : TI N T r c (dp + 1) (9 :: st) wrA w1 (k + 1) E C (nt + 1) 1 := ⟨a3, ⟨by rw [w0 37 (by decide) (by decide) (by decide) (by decide)]; exact hg.1, by rw [w0 39 (by decide) (by decide) (by decide) (by decide)]; exact hg.2.1, by rw [a2.1 6 (by decide)]; exact hg.2.2.1, by rw [a2.1 6 (by decide)]; exact hg.2.2.2.1, hg.2.2.2.2⟩, ⟨by rw [w0 41 (by decide) (by decide) (by decide) (by decide)]; exact h41, by rw [w0 35 (by decide) (by decide) (by decide) (by decide)]; exact h35, hr6, hc⟩, by rw [d0 38 (by decide)]; exact c38, oP.cg (d0 40 (by decide)) (dr 49 (by decide)), by show st.length + 1 ≤ k + 1; omega, by rw [pd9]; omega, by omega⟩
  obtain ⟨wr2, w2, k2, f2, b1, b2, b3, b4, b5⟩ := IH wrA w1 (nt + 1) ti
  have e1 : nI dp + 1 = nI (dp + 1) := nI_1 dp
  have cl := fc_not (G := G) (rf := rf) (v1 := nI dp) hx (nI_lt (b := 10) hd (by omega))
  rw [a1, u_ob, e1, b1, u_ob] at cl
  have tsf := fun m => ts_fact (G := G) (m := m) hW.1
  rw [fct] at tsf
  have step : ∀ m, lw2 (P_X12_test_9 G) (m + 1) 1 1 w = lw2 (P_X12_test_9 G) m 1 1 w1 := fun m => by rw [tsf m, u_cw]; rfl
  by_cases z : f2 = 0
  · obtain ⟨wz, j, i, E', C', nt', y1, y2, y3, y4, y5, y6, y7, y8, y9, y10, y11⟩ := b5 z
    obtain ⟨t1, t2, ⟨t3, t4, t5, t6⟩, t7, t8, t9, t10, t11⟩ := y6
    have n133 := nt_le t11 hN
    rw [pd9] at t10
    obtain ⟨wr3, w3, o1, o2, o3, o4, o5, o6, o7, o8, o9, o10, o11⟩ := pop_both (G := G) (y := -317) t1 t2 t4 t5 (by omega) (by omega) t8
    rw [o1, u_ob] at cl
    have ew : ∀ q, q < E' → ent w3.1 r q = ent w2.1 r q := fun q hq => by
      have := o4.2.2.2.2.2.2 (300 * r + q) (Or.inl (by omega))
      unfold ent; rw [this.1, this.2]
    refine ⟨wr3, w3, k2, 0, cl, (frA.tr b2 (Nat.le_refl _)).tr o4 y8, ⟨E' + 1 + c, o5.2.2.2.1, by omega, by omega⟩, fun q => absurd rfl q, fun _ => ⟨wz, j + 1, i + 1, E' + 1, C', nt', by omega, fun m => ?_, y3, by omega, fun m => ?_, ⟨o3, o5, ⟨?_, ?_, t5, t6⟩, ?_, o6, ?_, by omega, t11⟩, by omega, by omega, y9, fun q u1 u2 => ?_, fun ts hts => ?_⟩⟩
    · rw [show m + (j + 1) = (m + j) + 1 by omega, step, y2]
    · rw [show m + (i + 1) = (m + 1) + i by omega, y5, o2]
    · rw [o4.2.2.2.2.2.1 41 (by decide) (by decide) (by decide) (by decide) (by decide) (by decide)]; exact t3
    · rw [o4.2.2.2.2.2.1 35 (by decide) (by decide) (by decide) (by decide) (by decide) (by decide)]; exact t4
    · rw [o7, t7, if_pos rfl]; exact nI_pred dp
    · have : st.length + 1 ≤ k2 := t9; omega
    · by_cases y : q < E'
      · rw [ew q y, o4.2.2.2.1 (q + c) (by omega)]; exact y10 q u1 y
      · have : q = E' := by omega
        subst this
        rw [o8, o9]; exact ⟨Or.inr (Or.inr (Or.inl rfl)), rfl⟩
    · rw [show E' + 1 - E = (E' - E) + 1 by omega, seg_add, show E + (E' - E) = E' by omega, tyR_app _ _ _ (true :: ts)]
      · show (match tyS (true :: ts) (ent w3.1 r E') with | none => none | some u => tyR u []) = _
        rw [o8]; rfl
      · rw [seg_cg (es := ent w2.1 r) (fun q u1 u2 => ew q (by omega))]; exact y11 ts hts
  · obtain ⟨hs2, j, hj, hm⟩ := b4 z
    obtain ⟨wr3, o1, o2, o3, o4⟩ := any_F (G := G) (r := r) hs2 b3 (-317)
    rw [o1, u_ob] at cl
    exact ⟨wr3, w2, k2, f2, cl, (frA.tr b2 (Nat.le_refl _)).tr o3.t (Nat.le_refl _), o4, fun _ => ⟨o2, j + 1, by omega, fun m => by rw [show m + 1 + (j + 1) = (m + 1 + j) + 1 by omega, step]; exact hm m⟩, fun q => absurd q z⟩
end
