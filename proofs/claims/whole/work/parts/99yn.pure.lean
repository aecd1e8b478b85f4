/-! PURE 99yn: a bracket; a fact. -/
section
variable {G : GG} {N k r c E C dp nt x : Nat} {T : Nat → Nat} {w w' wr wr' : MS} {st : List Int32} {v1 f : Int32} {rf : Int32 → MS → Option MS}
theorem clB_r {x : Nat} (h : x ≠ 0) : (clB w).1 x = w.1 x := by unfold clB; rw [w_si_r h, w_si_r h, w_si_r h]
theorem clB_j {j : Nat} (h1 : j ≠ 33) (h2 : j ≠ 38) (h3 : j ≠ 40) : (clB w).1 0 j = w.1 0 j := by unfold clB; rw [w_si_j h2, w_si_j h3, w_si_j h1]
theorem clB_33 : (clB w).1 0 33 = w.1 0 33 + 1 := by unfold clB; rw [w_si_j (by decide), w_si_j (by decide), w_si_s]
theorem clB_40 : (clB w).1 0 40 = w.1 0 40 - 1 := by unfold clB; rw [w_si_j (by decide), w_si_s, w_si_j (by decide)]
theorem clB_38 : (clB w).1 0 38 = w.1 0 38 - 1 := by unfold clB; rw [w_si_s, w_si_j (by decide), w_si_j (by decide)]
theorem FrT.ofC (a : FrC wr wr') (b1 : ∀ x, x ≠ 0 → x ≠ 49 → w'.1 x = w.1 x) (b2 : ∀ j, j ≠ 33 → j ≠ 34 → j ≠ 38 → j ≠ 40 → w'.1 0 j = w.1 0 j) : FrT r c E wr w wr' w' := ⟨fun x u1 _ _ => a.1 x u1, a.2, fun j _ _ => by rw [a.1 6 (by decide)], fun j _ => by rw [a.1 7 (by decide)], fun x u1 _ _ u4 => b1 x u1 u4, fun j u1 u2 _ u4 _ u6 => b2 j u1 u2 u4 u6, fun j _ => by rw [b1 43 (by decide) (by decide), b1 44 (by decide) (by decide)]; exact ⟨rfl, rfl⟩⟩
theorem takeB_F (hs : Syn wlR N T wr w k f) (hf : f ≠ 0) {b : Nat} (hb : b < 256) (b1 : isD b = false) (b2 : isL b = false) (b3 : b ≠ 60 ∧ b ≠ 62) : ∃ wr' k', s_X8_takeByte G (nI b) wr = some wr' ∧ FrC wr wr' ∧ Syn wlR N T wr' w k' f := by
  obtain ⟨hK, hXc, hC, hTw, p, hW1, hW2, hW3, hW4⟩ := id hs
  have hN := hTw.1
  have sb := (sy_byte (wl := wlR) (p := tp N T k) (by decide) hTw hb b1 b2 b3).1
  unfold s_X8_takeByte
  by_cases z : wr.1 0 7 = nI b
  · have q := sb.mp (hC.2.2.1.symm.trans z)
    obtain ⟨wrA, a1, a2, a3, a4⟩ := adv_C (G := G) hN hK hC ((tp_K hC.1).mp q.1)
    rw [if_pos z, a1, u_ob]
    exact ⟨wrA, k + 1, rfl, a2, a3, tx_C hXc a2, a4, hTw, p, hW1, hW2, hW3, fun q => absurd q hf⟩
  · obtain ⟨wr2, c1, c2, c3, c4⟩ := q_fail (G := G) hN hK hC 0
    rw [if_neg hf] at c4
    rw [if_neg z, c1, u_ob]
    exact ⟨wr2, k, rfl, c2, c3, tx_C hXc c2, c4, hTw, p, hW1, hW2, hW3, fun q => absurd q hf⟩
theorem fact_br (hG : GI G) (hd : dp < 10) (h : TI N T r c dp st wr w k E C nt 1) (hx : wr.1 0 7 = 91) (IH : ∀ st wr w k E C nt, TI N T r c (dp + 1) st wr w k E C nt 1 → FcE G N T r c (dp + 1) st wr w k E C (rf (nI (dp + 1)) wr)) : FcE G N T r c dp st wr w k E C (s_X3_readFact_o G rf (nI dp) wr) := by
  obtain ⟨hs, hg, ⟨h41, h35, hr6, hc⟩, h38, ho, hl, hB, hnt⟩ := h
  obtain ⟨hK, hXc, hC, hTw, hW⟩ := id hs
  have hN := hTw.1
  have hK4 := tK_le N T
  have hk4 := hC.1
  have tle := tp_le (N := N) (T := T) k
  have bl := blanks_W (G := G) hTw hW
  have fW : FrW w (w_si w 0 33 (nI (tp N T k))) := FrW.s (Or.inl rfl)
  have hsb := hs.bl
  have f33 : (w_si w 0 33 (nI (tp N T k))).1 0 33 = nI (tp N T k) := w_si_s _ _ _ _
  have f34 : (w_si w 0 33 (nI (tp N T k))).1 0 34 = 0 := hsb.2.2.2.2.1
  have hTb := hsb.2.2.2.1
  have e7 : wr.1 0 7 = syv wlR N T (tp N T k) := hC.2.2.1
  have st22 := p_stood' (G := G) hG (ws_R (j := 17) (by decide)) hTb f33 (by omega)
  have sg := p_sign' (G := G) hTb f33 (by omega)
  have obb : OS (w_si w 0 33 (nI (tp N T k))) st := ho.cg (fW.2 40 (by decide) (by decide)) (fW.1 49 (by decide))
  have b38 : (w_si w 0 33 (nI (tp N T k))).1 0 38 = nI dp := by rw [fW.2 38 (by decide) (by decide)]; exact h38
  have w17 := sy_wd (N := N) (T := T) (p := tp N T k) (k := k) (w := w) (j := 17) (by decide) hTw
  have nw : ¬ wd N T (wlR.getD 17 []) (tp N T k) = true := fun q => absurd ((e7.trans (w17.mpr q)).symm.trans hx) (by decide)
  obtain ⟨sb1, sb2⟩ := sy_byte (wl := wlR) (w := w) (p := tp N T k) (by decide) hTw (c := 91) (by decide) (by decide) (by decide) (by decide)
  have zb := sb1.mp (e7.symm.trans hx)
  have hln := sb2 zb.1 zb.2
  have hk : k < tK N T := (tp_K hC.1).mp zb.1
  rw [if_neg nw] at st22
  rw [sg_is hTw (by decide) zb] at sg
  generalize hwb : w_si w 0 33 (nI (tp N T k)) = wb at bl fW hsb f33 f34 hTb st22 obb b38 sg
  have opn := p_opN (G := G) obb (by omega) (a := 12) (Or.inr rfl) b38 hd
  have fct := fr_br bl st22 sg opn
  have oW : OS (w_si wb 0 38 (nI (dp + 1))) st := obb.cg (w_si_j (by decide)) (w_si_r (by decide))
  have oP := oW.push (by omega) 12
  generalize hw16 : w_si (w_si (w_si wb 0 38 (nI (dp + 1))) 49 st.length 12) 0 40 (nI (st.length + 1)) = w16 at fct oP
  have c1 : ∀ x, x ≠ 0 → x ≠ 49 → w16.1 x = w.1 x := fun x u1 u2 => by rw [← hw16, w_si_r u1, w_si_r u2, w_si_r u1, fW.1 x u1]
  have c2 : ∀ j, j ≠ 33 → j ≠ 34 → j ≠ 38 → j ≠ 40 → w16.1 0 j = w.1 0 j := fun j u1 u2 u3 u4 => by rw [← hw16, w_si_j u4, w_si_r (by decide), w_si_j u3, fW.2 j u1 u2]
  have c33 : w16.1 0 33 = nI (tp N T k) := by rw [← hw16, w_si_j (by decide), w_si_r (by decide), w_si_j (by decide)]; exact f33
  have c34 : w16.1 0 34 = 0 := by rw [← hw16, w_si_j (by decide), w_si_r (by decide), w_si_j (by decide)]; exact f34
  have c38 : w16.1 0 38 = nI (dp + 1) := by rw [← hw16, w_si_j (by decide), w_si_r (by decide), w_si_s]
  have e3 : w16.1 0 33 + 1 = nI (tp N T k + 1) := by rw [c33]; exact nI_add (tp N T k) 1
  rw [e3] at fct
  have d0 : ∀ j, j ≠ 33 → (w_si w16 0 33 (nI (tp N T k + 1))).1 0 j = w16.1 0 j := fun j u => w_si_j u
  have dr : ∀ x, x ≠ 0 → (w_si w16 0 33 (nI (tp N T k + 1))).1 x = w16.1 x := fun x u => w_si_r u
  have d33 : (w_si w16 0 33 (nI (tp N T k + 1))).1 0 33 = nI (tp N T k + 1) := w_si_s _ _ _ _
  generalize w_si w16 0 33 (nI (tp N T k + 1)) = w1 at fct d0 dr d33
  obtain ⟨wrA, a1, a2, a3⟩ := word_adv (G := G) hs hk hln (w1 := w1) (by rw [d0 32 (by decide), c2 32 (by decide) (by decide) (by decide) (by decide)]) (by rw [dr 42 (by decide), c1 42 (by decide) (by decide)]) (by rw [d0 34 (by decide)]; exact c34) d33
  have w0 : ∀ j, j ≠ 33 → j ≠ 34 → j ≠ 38 → j ≠ 40 → w1.1 0 j = w.1 0 j := fun j u1 u2 u3 u4 => by rw [d0 j u1, c2 j u1 u2 u3 u4]
  have wr0 : ∀ x, x ≠ 0 → x ≠ 49 → w1.1 x = w.1 x := fun x u1 u2 => by rw [dr x u1, c1 x u1 u2]
  have frA : FrT r c E wr w wrA w1 := FrT.ofC a2 wr0 w0
  have tm := tp_mono (N := N) (T := T) (show k ≤ k + 1 by omega)
  have pd12 : pdg (12 :: st) = pdg st := rfl
  have ti : TI N T r c (dp + 1) (12 :: st) wrA w1 (k + 1) E C nt 1 := ⟨a3, ⟨by rw [w0 37 (by decide) (by decide) (by decide) (by decide)]; exact hg.1, by rw [w0 39 (by decide) (by decide) (by decide) (by decide)]; exact hg.2.1, by rw [a2.1 6 (by decide)]; exact hg.2.2.1, by rw [a2.1 6 (by decide)]; exact hg.2.2.2.1, hg.2.2.2.2⟩, ⟨by rw [w0 41 (by decide) (by decide) (by decide) (by decide)]; exact h41, by rw [w0 35 (by decide) (by decide) (by decide) (by decide)]; exact h35, hr6, hc⟩, by rw [d0 38 (by decide)]; exact c38, oP.cg (d0 40 (by decide)) (dr 49 (by decide)), by show st.length + 1 ≤ k + 1; omega, by rw [pd12]; omega, by omega⟩
  obtain ⟨wr2, w2, k2, f2, b1, b2, b3, b4, b5⟩ := test_both (G := G) (rf := rf) hG (st := 12 :: st) ⟨show (12 : Int32) ≠ 9 by decide, show (12 : Int32) ≠ 10 by decide, show (12 : Int32) ≠ 11 by decide⟩ IH ti
  have e1 : nI dp + 1 = nI (dp + 1) := nI_1 dp
  have cl := fc_br (G := G) (rf := rf) (v1 := nI dp) hx (nI_lt (b := 10) hd (by omega))
  rw [a1, u_ob, e1, b1, u_ob] at cl
  have tsf := fun m => ts_fact (G := G) (m := m) hW.1
  rw [fct] at tsf
  have step : ∀ m, lw2 (P_X12_test_9 G) (m + 1) 1 1 w = lw2 (P_X12_test_9 G) m 1 1 w1 := fun m => by rw [tsf m, u_cw]; rfl
  have fr2 := frA.tr b2 (Nat.le_refl _)
  by_cases z : f2 = 0
  · obtain ⟨wy, j, E', C', nt', y1, y2, ⟨z0, w5, w7, w15, z1, z2, z3, z4, z5, z6⟩, y4, y5, y6, y7, y8, y9, y10⟩ := b5 z
    obtain ⟨t1, t2, ⟨t3, t4, t5, t6⟩, t7, t8, t9, t10, t11⟩ := y5
    obtain ⟨tK2, tX2, tC2, tT2, tW2⟩ := id t1
    have hk2 : k2 ≤ tK N T := tC2.1
    have tle2 := tp_le (N := N) (T := T) k2
    have top := p_top' (G := G) t8
    have sg2 := p_sign' (G := G) tT2 y4 (by omega)
    obtain ⟨sc1, sc2⟩ := sy_byte (wl := wlR) (w := w) (p := tp N T k2) (by decide) hTw (c := 93) (by decide) (by decide) (by decide) (by decide)
    have e72 : wr2.1 0 7 = syv wlR N T (tp N T k2) := tC2.2.2.1
    have n133 := nt_le t11 hN
    have pd12 : pdg (12 :: st) = pdg st := rfl
    rw [pd12] at t10
    have t9 : st.length + 1 ≤ k2 := t9
    by_cases y : tp N T k2 < N ∧ T (tp N T k2) = 93
    · -- the bracket is closed
      have hk3 : k2 < tK N T := (tp_K hk2).mp y.1
      have hsg : sgn N T (tp N T k2) = 93 := sg_is tT2 (by decide) y
      have br := fun m => ts_br (G := G) (m := m) (w40 := w2) z0 z1 z2 z3 z4 z5 z6 top sg2 (if_pos hsg)
      obtain ⟨wrB, v1, v2, v3⟩ := word_adv (G := G) t1 hk3 (sc2 y.1 y.2) (w1 := clB w2) (clB_j (by decide) (by decide) (by decide)) (clB_r (by decide)) ((clB_j (by decide) (by decide) (by decide)).trans tW2.1) (by rw [clB_33, y4]; exact nI_add (tp N T k2) 1)
      have tk : s_X8_takeByte G 93 wr2 = some wrB := by
        unfold s_X8_takeByte
        rw [if_pos (show wr2.1 0 7 = (93 : Int32) from e72.trans (sc1.mpr y)), v1, u_ob]
      rw [tk, u_ob] at cl
      have frB : FrT r c E' wr2 w2 wrB (clB w2) := FrT.ofC v2 (fun x u1 _ => clB_r u1) (fun j u1 _ u3 u4 => clB_j u1 u3 u4)
      have tm2 := tp_mono (N := N) (T := T) (show k2 ≤ k2 + 1 by omega)
      have eB : ent (clB w2).1 r = ent w2.1 r := by funext i; unfold ent; rw [clB_r (by decide), clB_r (by decide)]
      refine ⟨wrB, clB w2, k2 + 1, 0, cl, fr2.tr frB y7, ⟨E' + c, by rw [v2.1 6 (by decide)]; exact t2.2.2.2.1, by omega, by omega⟩, fun q => absurd rfl q, fun _ => ⟨clB w2, 1 + (j + 1), 0, E', C', nt', by omega, fun m => ?_, (clB_j (by decide) (by decide) (by decide)).trans tW2.1, Nat.zero_le _, fun m => rfl, ⟨v3, ⟨?_, ?_, ?_, ?_, t2.2.2.2.2⟩, ⟨?_, ?_, t5, t6⟩, ?_, ?_, by omega, by omega, by omega⟩, by omega, y7, y8, y9.frT hr6 frB, fun ts hts => by rw [eB]; exact y10 ts hts⟩⟩
      · rw [show m + (1 + (j + 1)) = (m + 1 + j) + 1 by omega, step, y2, br]
      · rw [clB_j (by decide) (by decide) (by decide)]; exact t2.1
      · rw [clB_j (by decide) (by decide) (by decide)]; exact t2.2.1
      · rw [v2.1 6 (by decide)]; exact t2.2.2.1
      · rw [v2.1 6 (by decide)]; exact t2.2.2.2.1
      · rw [clB_j (by decide) (by decide) (by decide)]; exact t3
      · rw [clB_j (by decide) (by decide) (by decide)]; exact t4
      · rw [clB_38, t7]; exact nI_pred dp
      · exact ⟨by rw [clB_40, t8.1]; exact nI_pred st.length, by rw [clB_r (by decide)]; exact t8.2.1.2, by omega⟩
    · -- it is not
      have hsg : ¬ sgn N T (tp N T k2) = 93 := sg_ne tT2 (d := 93) (by decide) y
      obtain ⟨w40, d1, d2, d3, d4⟩ := p_fails' (G := G) tW2.1 0 (w2.1 0 33)
      rw [if_pos rfl] at d4
      have br := fun m => ts_br (G := G) (m := m) (w40 := w40) z0 z1 z2 z3 z4 z5 z6 top sg2 (by rw [if_neg hsg]; exact d1)
      obtain ⟨wrB, v1, v2, v3, v4⟩ := q_fail (G := G) hN tK2 tC2 (nI 0)
      rw [if_pos rfl] at v4
      have hne := flt_ne (N := N) (T := T) (k := k2) (c := 0) hN (by decide)
      have tk : s_X8_takeByte G 93 wr2 = some wrB := by
        unfold s_X8_takeByte
        rw [if_neg (show ¬ wr2.1 0 7 = (93 : Int32) from fun q => y (sc1.mp (e72.symm.trans q))), show s_X8_fail G (0 : Int32) wr2 = some wrB from v1, u_ob]
      rw [tk, u_ob] at cl
      have e34 : (clB w40).1 0 34 = flt N T k2 (nI 0) := by rw [clB_j (by decide) (by decide) (by decide), d4, y4]; rfl
      have frB : FrT r c E' wr2 w2 wrB (clB w40) := FrT.ofC v2 (fun x u1 _ => (clB_r u1).trans (d2.1 x u1)) (fun j u1 u2 u3 u4 => (clB_j u1 u3 u4).trans (d2.2 j u1 u2))
      refine ⟨wrB, clB w40, k2, flt N T k2 (nI 0), cl, fr2.tr frB y7, ⟨E' + c, by rw [v2.1 6 (by decide)]; exact t2.2.2.2.1, by omega, by omega⟩, fun _ => ⟨⟨v3, tx_C tX2 v2, v4, tT2.cg ((clB_j (by decide) (by decide) (by decide)).trans (d2.2 32 (by decide) (by decide))) ((clB_r (by decide)).trans (d2.1 42 (by decide))), e34, tp N T k2 + 1, by rw [clB_33, d3, y4]; exact nI_add (tp N T k2) 1, ⟨by omega, flt_FO hN (by decide)⟩, fun q => absurd q hne⟩, 1 + (j + 1), by omega, fun m => ?_⟩, fun q => absurd q hne⟩
      rw [show m + 1 + (1 + (j + 1)) = (m + 1 + 1 + j) + 1 by omega, step, y2, br]
      exact ts_F (by rw [e34]; exact hne)
  · obtain ⟨hs2, j, hj, hm⟩ := b4 z
    obtain ⟨wr3, k3, o1, o2, o3⟩ := takeB_F (G := G) hs2 z (b := 93) (by decide) (by decide) (by decide) (by decide)
    rw [show s_X8_takeByte G 93 wr2 = some wr3 from o1, u_ob] at cl
    obtain ⟨W, g1, g2, g3⟩ := b3
    exact ⟨wr3, w2, k3, f2, cl, fr2.tr (FrT.ofC o2 (fun _ _ _ => rfl) (fun _ _ _ _ _ => rfl)) (Nat.le_refl _), ⟨W, by rw [o2.1 6 (by decide)]; exact g1, g2, g3⟩, fun _ => ⟨o3, j + 1, by omega, fun m => by rw [show m + 1 + (j + 1) = (m + 1 + j) + 1 by omega, step]; exact hm m⟩, fun q => absurd q z⟩
theorem fact_both (hG : GI G) : ∀ (n dp : Nat), n + dp = 12 → dp ≤ 10 → ∀ st wr w k E C nt, TI N T r c dp st wr w k E C nt 1 → FcE G N T r c dp st wr w k E C (s_X3_readFact G n (nI dp) wr)
  | 0, dp, e, hd, st, wr, w, k, E, C, nt, h => by omega
  | n + 1, dp, e, hd, st, wr, w, k, E, C, nt, h => by
    show FcE G N T r c dp st wr w k E C (s_X3_readFact_o G (s_X3_readFact G n) (nI dp) wr)
    by_cases z : wr.1 0 7 = 317 ∨ wr.1 0 7 = 91
    · by_cases y : dp < 10
      · have IH := fact_both hG n (dp + 1) (by omega) (by omega)
        by_cases x : wr.1 0 7 = 317
        · exact fact_not hG y h x (fun wr1 w1 nt1 q => IH (9 :: st) wr1 w1 (k + 1) E C nt1 q)
        · exact fact_br hG y h (z.resolve_left x) IH
      · have : dp = 10 := by omega
        subst this
        exact fact_deep hG h z
    · exact fact_cmp hG h (fun q => z (Or.inl q)) (fun q => z (Or.inr q))
end
