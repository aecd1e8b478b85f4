/-! PURE 99yd: a comparison, on both sides. -/
section
variable {G : GG} {X t N k n j p r c E C W m v2 M E1 : Nat} {T : Nat → Nat} {w w' w0 w1 w2 w6 wr wr' wr1 : MS} {f v1 : Int32} {wl : List (List Nat)}
theorem cmp_both (hG : GI G) (hs : Syn wlR N T wr w k 0) (hg : Gd r c wr w E C) (h41 : w.1 0 41 = 13) (h35 : w.1 0 35 = nI r) (hr6 : r < 6) (hc : c ≤ 13) (hM : M ≤ 285) (hB : E + 2 * (60 - C) ≤ M) : CmE N T r c M wr w E C k (s_X3_readComparison G wr) (p_X12_compared G w) := by
  obtain ⟨wr1, w1, k1, f1, a1, a2, a3, a4, a5, a6⟩ := sum_both (G := G) hG hs hg h41 h35 hr6 hc hM hB
  have f0 := a4.2.2.2.2.2.1
  have b41 : w1.1 0 41 = 13 := by rw [f0 41 (by decide) (by decide) (by decide) (by decide)]; exact h41
  have b35 : w1.1 0 35 = nI r := by rw [f0 35 (by decide) (by decide) (by decide) (by decide)]; exact h35
  by_cases z : f1 = 0
  rotate_left
  · obtain ⟨w7, d1, d2, d3⟩ := cmpR_F (G := G) hG a2 (a3.atF z b41)
    obtain ⟨W, v1, v2, v3⟩ := a5
    refine ⟨_, w7, k1, f1, cmpC_F a1 (by rw [a3.2.2.1.2.2.2.2]; exact z), d1, a3.toF d2 (fun x hx => w_si_r (by omega)), a4.tr (d3.toR (fun x hx => w_si_r hx) (fun j _ h3 => w_si_j h3)) (Nat.le_refl _), ⟨W, by rw [w_si_j (by decide)]; exact v1, v2, v3⟩, fun q => absurd q z⟩
  subst z
  obtain ⟨E1, C1, s1, s2, s3, s4, s5, s6, s7, s8⟩ := a6 rfl
  obtain ⟨hK, hXc, hC, hTw, hW⟩ := id a3
  have hN := hTw.1
  have tle := tp_le (N := N) (T := T) k1
  have l20 : wlR.length ≤ 20 := by decide
  have e7 : wr1.1 0 7 = syv wlR N T (tp N T k1) := hC.2.2.1
  obtain ⟨g1, g2, g3, g4, g5⟩ := id s3
  by_cases q : tp N T k1 < N ∧ (T (tp N T k1) = 60 ∨ T (tp N T k1) = 61 ∨ T (tp N T k1) = 62)
  · obtain ⟨x, l, e, hcm, hsy, hln⟩ := cm_sy (wl := wlR) q.1 q.2
    obtain ⟨x1, x2, x3, x4, x5, x6⟩ := cmS_e hcm
    have x6 := x6 q.1
    have hk : k1 < tK N T := (tp_K hC.1).mp q.1
    obtain ⟨w6, c1, c2, c3, c4, c5⟩ := p_count (G := G) hW.1 g2 g5 (nI (tp N T k1))
    have p6 : w6.1 0 33 = nI (tp N T k1) := by rw [c3 33 (by decide) (by decide)]; exact s1
    have T6 : TxW N T w6 := hTw.cg (c3 32 (by decide) (by decide)) (c2 42 (by decide))
    have rf := cmpR (G := G) a2 hTw s1 q.1 hcm c1 T6 p6
    rw [cmpC a1 (e7.trans hsy), if_pos x1, w_si_s, g3, nI_1]
    by_cases z : C1 = 60
    · rw [if_pos ⟨rfl, z⟩] at c5
      have hf : w6.1 0 34 = flt N T k1 (nI 3) := c5
      have hA6 : AtF N T w6 (flt N T k1 (nI 3)) := ⟨T6, hf, flt_FO hN (by decide), flt_ne hN (by decide), by rw [c3 41 (by decide) (by decide)]; exact b41, _, p6, by omega⟩
      obtain ⟨b1, b2⟩ := hA6.s33 (q := tp N T k1 + 1) (by omega)
      obtain ⟨d1, d2⟩ := b1.s33 (q := tp N T k1 + l) (by omega)
      obtain ⟨w7, y1, y2, y3⟩ := sumR_F (G := G) hG d1
      have fr := (b2.tr d2).tr y3
      rw [if_neg (show ¬ nI (C1 + 1) ≤ (60 : Int32) by rw [z]; decide)]
      have cb := cm_bad (G := G) (x := x) (cc := 3) (M := M) (C := C) (wr := wr) (w := w) (k0 := k) (P := p_X12_compared G w) (by decide) a3 a5 a4 y2 (fun wr2 hq => ⟨hq.1, hq.2.1, hq.2.2.1, hq.2.2.2.1, fun x u1 _ _ => by rw [fr.1 x u1, c2 x u1], fun j u1 u2 _ u5 => by rw [fr.2 j u1 u5, c3 j u2 u5], fun j _ => by rw [fr.1 43 (by decide), fr.1 44 (by decide), c2 43 (by decide), c2 44 (by decide)]; exact ⟨rfl, rfl⟩⟩) (by rw [rf, y1, u_ob, p_entryF (by rw [y2.2.1]; exact y2.2.2.2.1), u_ob])
      rw [g3, nI_1] at cb
      exact cb
    · rw [if_neg (fun u => z u.2)] at c5
      rw [if_pos (show nI (C1 + 1) ≤ (60 : Int32) from nI_le (b := 60) (by omega) (by omega))]
      have hs2 : Syn wlR N T (w_si wr1 6 3 (nI (C1 + 1))) w1 k1 0 := a3.c6 (fun r hr => w_si_r (by omega))
      obtain ⟨wrA, b1, b2, b3, b4⟩ := adv_C (G := G) hN hs2.1 hs2.2.2.1 hk
      have te := tk_end hk
      have tg := tk_gap hk
      rw [hln] at te tg
      have tl := tp_le (N := N) (T := T) (k1 + 1)
      have e6 : wrA.1 6 = (w_si wr1 6 3 (nI (C1 + 1))).1 6 := b2.1 6 (by decide)
      -- the reference's place after the sign
      have er : ∀ r, r ≠ 0 → (w_si (w_si w6 0 33 (nI (tp N T k1 + 1))) 0 33 (nI (tp N T k1 + l))).1 r = w1.1 r := fun r hr => by rw [w_si_r hr, w_si_r hr, c2 r hr]
      have e0 : ∀ j, j ≠ 33 → j ≠ 34 → j ≠ 39 → (w_si (w_si w6 0 33 (nI (tp N T k1 + 1))) 0 33 (nI (tp N T k1 + l))).1 0 j = w1.1 0 j := fun j u1 u2 u3 => by rw [w_si_j u1, w_si_j u1, c3 j u2 u3]
      have e33 : (w_si (w_si w6 0 33 (nI (tp N T k1 + 1))) 0 33 (nI (tp N T k1 + l))).1 0 33 = nI (tp N T k1 + l) := w_si_s _ _ _ _
      have e34 : (w_si (w_si w6 0 33 (nI (tp N T k1 + 1))) 0 33 (nI (tp N T k1 + l))).1 0 34 = 0 := by rw [w_si_j (by decide), w_si_j (by decide)]; exact c5
      have e39 : (w_si (w_si w6 0 33 (nI (tp N T k1 + 1))) 0 33 (nI (tp N T k1 + l))).1 0 39 = nI (C1 + 1) := by rw [w_si_j (by decide), w_si_j (by decide)]; exact c4
      generalize w_si (w_si w6 0 33 (nI (tp N T k1 + 1))) 0 33 (nI (tp N T k1 + l)) = w8 at rf er e0 e33 e34 e39
      have hsA : Syn wlR N T wrA w8 (k1 + 1) 0 := ⟨b3, tx_C hs2.2.1 b2, b4, hTw.cg (e0 32 (by decide) (by decide) (by decide)) (er 42 (by decide)), e34, _, e33, ⟨by omega, FO_0⟩, fun _ => ⟨te, tg⟩⟩
      have hgA : Gd r c wrA w8 E1 (C1 + 1) := ⟨by rw [e0 37 (by decide) (by decide) (by decide)]; exact g1, e39, by rw [e6, w_si_s], by rw [e6, w_si_j (by decide)]; exact g4, by omega⟩
      have frA : FrR r c E1 wr1 w1 wrA w8 := ⟨fun x u1 u2 _ => by rw [b2.1 x u1, w_si_r u2], fun j hj => by rw [b2.2 j hj, w_si_r (by decide)], fun j _ u2 => by rw [e6, w_si_j u2], fun j _ => by rw [b2.1 7 (by decide), w_si_r (by decide)], fun x u1 _ _ => er x u1, fun j u1 u2 _ u5 => e0 j u1 u2 u5, fun j _ => by rw [er 43 (by decide), er 44 (by decide)]; exact ⟨rfl, rfl⟩⟩
      obtain ⟨wr3, w3, k3, f3, i1, i2, i3, i4, i5, i6⟩ := sum_both (G := G) (M := M - 2) hG hsA hgA (by rw [e0 41 (by decide) (by decide) (by decide)]; exact b41) (by rw [e0 35 (by decide) (by decide) (by decide)]; exact b35) hr6 hc (by omega) (by omega)
      have fr13 : FrR r c E1 wr1 w1 wr3 w3 := frA.tr i4 (Nat.le_refl _)
      have cj : CjJ G x (w_si wr1 6 3 (nI (C1 + 1))) = ob (s_X3_write G (-x) wr3) fun w10 => some w10 := by
        unfold CjJ
        rw [if_pos (show (w_si wr1 6 3 (nI (C1 + 1))).1 0 9 = 0 from hs2.2.2.1.2.2.2.2), b1, u_ob, i1, u_ob]
      rw [cj, rf, i2, u_ob]
      by_cases y : f3 = 0
      · subst y
        obtain ⟨E3, C3, t1, t2, t3, t4, t5, t6, t7, t8⟩ := i6 rfl
        have d35 : w3.1 0 35 = nI r := by rw [i4.2.2.2.2.2.1 35 (by decide) (by decide) (by decide) (by decide), e0 35 (by decide) (by decide) (by decide)]; exact b35
        obtain ⟨wr4, w4, o1, o2, o3, o4, o5, o6, o7, o8, -⟩ := one_both (G := G) i3 t3 ⟨d35, hr6⟩ (by omega) (by omega) (a := e) (b := 0) (y := -x)
        rw [o1, u_ob, o2, u_ob]
        have fr14 : FrR r c E1 wr1 w1 wr4 w4 := fr13.tr o4 (by omega)
        refine ⟨wr4, w4, k3, 0, rfl, rfl, o3, a4.tr fr14 (by omega), ⟨E3 + 1 + c, o5.2.2.2.1, by omega, by omega⟩, fun _ => ⟨E3 + 1, C3, by rw [o8]; exact t1, by omega, o5, by omega, by omega, by omega, fun i u1 u2 => ?_, fun ts hts => ?_⟩⟩
        · by_cases y1 : i < E1
          · exact (s7.fr hr6 fr14) i u1 y1
          · by_cases y2 : i < E3
            · exact (t7.fr hr6 o4) i (by omega) y2
            · have : i = E3 := by omega
              subst this
              rw [o6, o7, x3]; exact ⟨x4, rfl⟩
        · rw [show E3 + 1 - E = (E1 - E) + ((E3 - E1) + 1) by omega, seg_add, show E + (E1 - E) = E1 by omega, tyR_app _ _ _ (false :: ts)]
          · rw [seg_add, show E1 + (E3 - E1) = E3 by omega, tyR_app _ _ _ (false :: false :: ts)]
            · show (match tyS (false :: false :: ts) (ent w4.1 r E3) with | none => none | some u => tyR u []) = _
              rw [o6, ty_cm x2]; rfl
            · rw [seg_cg (es := ent w3.1 r) (fun i u1 u2 => ent_fr hr6 o4 (by omega))]
              exact t8 (false :: ts) (by show ts.length + 1 + 0 ≤ C1 + 1; omega)
          · rw [seg_cg (es := ent w1.1 r) (fun i u1 u2 => ent_fr hr6 fr14 (by omega))]
            exact s8 ts (by show ts.length + 0 ≤ C; omega)
      · obtain ⟨wr4, o1, o2, o3, W, o4, o5, o6⟩ := any_F (G := G) (r := r) i3 i5 (-x)
        rw [o1, u_ob, p_entryF (by rw [i3.2.2.2.2.1]; exact y), u_ob]
        exact ⟨wr4, w3, k3, f3, rfl, rfl, o2, a4.tr (fr13.tr o3 (Nat.le_refl _)) (by omega), ⟨W, o4, o5, by omega⟩, fun u => absurd u y⟩
  · have ne := cm_no (wl := wlR) l20 hTw q
    have nx : ¬ (syv wlR N T (tp N T k1) = 60 ∨ syv wlR N T (tp N T k1) = 259 ∨ syv wlR N T (tp N T k1) = 61 ∨ syv wlR N T (tp N T k1) = 260 ∨ syv wlR N T (tp N T k1) = 62) := fun u => by
      rcases u with u | u | u | u | u
      · exact ne.1 u
      · exact ne.2.1 u
      · exact ne.2.2.1 u
      · exact ne.2.2.2.1 u
      · exact ne.2.2.2.2 u
    rw [cmpC a1 e7, if_neg nx, cmpR_no a2 hTw s1 (by omega) q]
    obtain ⟨w7, d1, d2, d3, d4⟩ := p_fails' (G := G) hW.1 0 (nI (tp N T k1))
    rw [if_pos rfl] at d4
    exact cm_bad (G := G) (cc := 0) (w' := w7) (by decide) a3 a5 a4 ⟨d2.tx hTw, d4, flt_FO hN (by decide), flt_ne hN (by decide), by rw [d2.2 41 (by decide) (by decide)]; exact b41, _, by rw [d3]; exact s1, by omega⟩ (fun wr2 hq => ⟨hq.1, hq.2.1, hq.2.2.1, hq.2.2.2.1, fun x u1 _ _ => d2.1 x u1, fun j u1 u2 _ _ => d2.2 j u1 u2, fun j _ => by rw [d2.1 43 (by decide), d2.1 44 (by decide)]; exact ⟨rfl, rfl⟩⟩) (by rw [d1, u_ob])
end
