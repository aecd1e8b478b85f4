/-! PURE 99yj: a fact too deep. -/
section
variable {G : GG} {N k r c E C dp nt x : Nat} {T : Nat → Nat} {w w' wr wr' : MS} {st : List Int32} {v1 : Int32} {rf : Int32 → MS → Option MS}
theorem fact_deep (hG : GI G) (h : TI N T r c 10 st wr w k E C nt 1) (hx : wr.1 0 7 = 317 ∨ wr.1 0 7 = 91) : FcE G N T r c 10 st wr w k E C (s_X3_readFact_o G rf (nI 10) wr) := by
  obtain ⟨hs, hg, ⟨h41, h35, hr6, hc⟩, h38, ho, hl, hB, hnt⟩ := h
  obtain ⟨hK, hXc, hC, hTw, hW⟩ := id hs
  have hN := hTw.1
  have hK4 := tK_le N T
  have hk4 := hC.1
  have tle := tp_le (N := N) (T := T) k
  have bl := blanks_W (G := G) hTw hW
  have fW : FrW w (w_si w 0 33 (nI (tp N T k))) := FrW.s (Or.inl rfl)
  have hsb := hs.bl
  have f33 : (w_si w 0 33 (nI (tp N T k))).1 0 33 = nI (tp N T k) := w_si_s _ _ _ _
  have f34 : (w_si w 0 33 (nI (tp N T k))).1 0 34 = 0 := hsb.2.2.2.2.1
  have hTb := hsb.2.2.2.1
  have e7 : wr.1 0 7 = syv wlR N T (tp N T k) := hC.2.2.1
  have st22 := p_stood' (G := G) hG (ws_R (j := 17) (by decide)) hTb f33 (by omega)
  have sg := p_sign' (G := G) hTb f33 (by omega)
  have obb : OS (w_si w 0 33 (nI (tp N T k))) st := ho.cg (fW.2 40 (by decide) (by decide)) (fW.1 49 (by decide))
  have b38 : (w_si w 0 33 (nI (tp N T k))).1 0 38 = nI 10 := by rw [fW.2 38 (by decide) (by decide)]; exact h38
  have w17 := sy_wd (N := N) (T := T) (p := tp N T k) (k := k) (w := w) (j := 17) (by decide) hTw
  have b91 := sy_byte (wl := wlR) (w := w) (p := tp N T k) (by decide) hTw (c := 91) (by decide) (by decide) (by decide) (by decide)
  generalize hwb : w_si w 0 33 (nI (tp N T k)) = wb at bl fW hsb f33 f34 hTb st22 sg obb b38
  -- the reference
  have ref : ∃ w', (∀ m, lw2 (P_X12_test_9 G) (m + 1 + 1) 1 1 w = some w') ∧ (∀ x, x ≠ 0 → x ≠ 49 → w'.1 x = w.1 x) ∧ (∀ j, j ≠ 33 → j ≠ 34 → j ≠ 38 → j ≠ 40 → w'.1 0 j = w.1 0 j) ∧ w'.1 0 34 = flt N T k (nI 2) ∧ ∃ q, w'.1 0 33 = nI q ∧ q ≤ 402 := by
    have fin : ∀ (w16 : MS) (q : Nat), q ≤ 3 → (tp N T k + q ≤ 402) → p_X12_fact G w = some (0, w_si w16 0 33 (w16.1 0 33 + nI q)) → (∀ x, x ≠ 0 → x ≠ 49 → w16.1 x = wb.1 x) → (∀ j, j ≠ 34 → j ≠ 38 → j ≠ 40 → w16.1 0 j = wb.1 0 j) → w16.1 0 34 = ((1 : Int32) + (8 : Int32) * wb.1 0 33) + 2 → ∃ w', (∀ m, lw2 (P_X12_test_9 G) (m + 1 + 1) 1 1 w = some w') ∧ (∀ x, x ≠ 0 → x ≠ 49 → w'.1 x = w.1 x) ∧ (∀ j, j ≠ 33 → j ≠ 34 → j ≠ 38 → j ≠ 40 → w'.1 0 j = w.1 0 j) ∧ w'.1 0 34 = flt N T k (nI 2) ∧ ∃ q, w'.1 0 33 = nI q ∧ q ≤ 402 := fun w16 q q3 q4 hf c1 c2 c3 => by
      have e34 : (w_si w16 0 33 (w16.1 0 33 + nI q)).1 0 34 = flt N T k (nI 2) := by rw [w_si_j (by decide), c3, f33]; rfl
      refine ⟨w_si w16 0 33 (w16.1 0 33 + nI q), fun m => ?_, fun x u1 u2 => by rw [w_si_r u1, c1 x u1 u2, fW.1 x u1], fun j u1 u2 u3 u4 => by rw [w_si_j u1, c2 j u2 u3 u4, fW.2 j u1 u2], e34, tp N T k + q, by rw [w_si_s, c2 33 (by decide) (by decide) (by decide), f33, nI_add], q4⟩
      rw [ts_fact (m := m + 1) hW.1, hf, u_cw]
      exact ts_F (by rw [e34]; exact flt_ne hN (by decide))
    by_cases z : wr.1 0 7 = 317
    · have zw : wd N T (wlR.getD 17 []) (tp N T k) = true := w17.mp (e7.symm.trans z)
      obtain ⟨l1, l2, l3⟩ := wd_L zw (wlR_pos 17 (by decide))
      have lle := rn_le isL T (tp N T k) (N - tp N T k)
      rw [if_pos zw] at st22
      obtain ⟨w16, d1, d2, d3, d4⟩ := p_opB (G := G) obb (by omega) (a := 9) (Or.inl rfl) b38 f34
      exact fin w16 3 (by decide) (by have : (wlR.getD 17 []).length = 3 := rfl; omega) (fr_not bl st22 d1) d2 d3 d4
    · have z91 := hx.resolve_left z
      have zb := b91.1.mp (e7.symm.trans z91)
      have nw : ¬ wd N T (wlR.getD 17 []) (tp N T k) = true := fun q => z (e7.trans (w17.mpr q))
      rw [if_neg nw] at st22
      have sg' : p_X12_sign G wb = some (91, wb) := by rw [sg, sg_is hTw (by decide) zb]; rfl
      obtain ⟨w16, d1, d2, d3, d4⟩ := p_opB (G := G) obb (by omega) (a := 12) (Or.inr rfl) b38 f34
      exact fin w16 1 (by decide) (by omega) (fr_br bl st22 sg' d1) d2 d3 d4
  obtain ⟨w', r1, r2, r3, r4, q, r5, r6⟩ := ref
  obtain ⟨wr', b1, b2, b3, b4⟩ := q_fail (G := G) hN hK hC (nI 2)
  rw [if_pos rfl] at b4
  have hne := flt_ne (N := N) (T := T) (k := k) (c := 2) hN (by decide)
  refine ⟨wr', w', k, flt N T k (nI 2), ?_, ⟨fun x u1 _ _ => b2.1 x u1, b2.2, fun j _ _ => by rw [b2.1 6 (by decide)], fun j _ => by rw [b2.1 7 (by decide)], fun x u1 _ _ u4 => r2 x u1 u4, fun j u1 u2 _ u4 _ u6 => r3 j u1 u2 u4 u6, fun j _ => by rw [r2 43 (by decide) (by decide), r2 44 (by decide) (by decide)]; exact ⟨rfl, rfl⟩⟩, ⟨E + c, by rw [b2.1 6 (by decide)]; exact hg.2.2.2.1, ?_, Nat.le_refl _⟩, fun _ => ⟨⟨b3, tx_C hXc b2, b4, hTw.cg (r3 32 (by decide) (by decide) (by decide) (by decide)) (r2 42 (by decide) (by decide)), r4, q, r5, ⟨r6, flt_FO hN (by decide)⟩, fun z => absurd z hne⟩, 1, by omega, r1⟩, fun z => absurd z hne⟩
  · rw [fc_deep hx (by decide), show s_X8_fail G (2 : Int32) wr = some wr' from b1, u_ob]
  · omega
end
