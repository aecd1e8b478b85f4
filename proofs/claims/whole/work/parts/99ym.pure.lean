/-! PURE 99ym: a test, on both sides. -/
section
variable {G : GG} {N k r c E C dp nt x E0 C0 : Nat} {T : Nat → Nat} {w w' wr wr' wr0 w0 wz : MS} {st : List Int32} {rf : Int32 → MS → Option MS}
/-- a test's end in the reference, ahead of what closes it -/
def TZ (G : GG) (wy w' : MS) : Prop := wy.1 0 34 = 0 ∧ ∃ w5 w7 w15, p_X12_answers G 9 wy = some w5 ∧ p_X12_blanks G w5 = some w7 ∧ p_X12_stood G (G.2.2.2.1 23) w7 = some (0, w7) ∧ p_X12_stood G (G.2.2.2.1 24) w7 = some (0, w7) ∧ p_X12_answers G 10 w7 = some w15 ∧ p_X12_answers G 11 w15 = some w'
/-- what comes of a test -/
def TsE (G : GG) (N : Nat) (T : Nat → Nat) (r c dp : Nat) (st : List Int32) (wr0 w0 : MS) (k E0 C0 : Nat) (v : Int32) (wz : MS) (F : Option MS) : Prop := ∃ wr' w' k' f', F = some wr' ∧ FrT r c E0 wr0 w0 wr' w' ∧ (∃ W, wr'.1 6 2 = nI W ∧ W ≤ 400 ∧ E0 + c ≤ W) ∧ (f' ≠ 0 → Syn wlR N T wr' w' k' f' ∧ ∃ j, j ≤ 4 * (tK N T + 1 - k) ∧ ∀ m, lw2 (P_X12_test_9 G) (m + 1 + j) v 1 wz = some w') ∧ (f' = 0 → ∃ wy j E' C' nt', j ≤ 4 * (k' - k) ∧ (∀ m, lw2 (P_X12_test_9 G) (m + j) v 1 wz = lw2 (P_X12_test_9 G) m 0 1 wy) ∧ TZ G wy w' ∧ w'.1 0 33 = nI (tp N T k') ∧ TI N T r c dp st wr' w' k' E' C' nt' 0 ∧ k ≤ k' ∧ E0 ≤ E' ∧ C0 < C' ∧ WrE r c wr' w' E0 E' ∧ ∀ ts, ts.length ≤ C0 → tyR ts (seg (ent w'.1 r) (E' - E0) E0) = some (true :: ts))
/-- in the loop over joints -/
def TL (G : GG) (N : Nat) (T : Nat → Nat) (r c dp : Nat) (st : List Int32) (lg o : Bool) (wr0 w0 wr w wz : MS) (k E C nt E0 C0 i : Nat) : Prop := TI N T r c dp (stk lg o 10 11 st) wr w k E C nt 0 ∧ wz.1 0 34 = 0 ∧ i ≤ 402 ∧ (∀ m, lw0 (P_X12_answers_0 G 9) (m + i) wz = lw0 (P_X12_answers_0 G 9) m w) ∧ FrT r c E0 wr0 w0 wr w ∧ E0 ≤ E ∧ C0 + 1 + lg.toNat + o.toNat ≤ C ∧ WrE r c wr w E0 E ∧ ∀ ts, ts.length ≤ C0 → tyR ts (seg (ent w.1 r) (E - E0) E0) = some (true :: stk lg o true true ts)
theorem KT_F {f : Int32} (hs : Syn wlR N T wr w k f) (hb : ∃ W, wr.1 6 2 = nI W ∧ W ≤ 400 ∧ E + c ≤ W) (v : Int32) : ∃ wr', KT G v wr = some wr' ∧ Syn wlR N T wr' w k f ∧ FrT r c E wr w wr' w ∧ ∃ W, wr'.1 6 2 = nI W ∧ W ≤ 400 ∧ E + c ≤ W := by
  unfold KT
  by_cases z : v = 0
  · rw [if_pos z]; exact ⟨wr, rfl, hs, FrT.rf, hb⟩
  · obtain ⟨wr', a1, a2, a3, a4⟩ := any_F (G := G) (r := r) hs hb (-315)
    rw [if_neg z, a1, u_ob]; exact ⟨wr', rfl, a2, a3.t, a4⟩
theorem KT_c (o : Bool) : KT G (cond o 1 0) wr = if o = true then s_X3_write G (-315) wr else some wr := by
  unfold KT
  cases o with
  | false => rfl
  | true =>
    show ob (s_X3_write G (-315) wr) (fun w25 => some w25) = s_X3_write G (-315) wr
    cases s_X3_write G (-315) wr <;> rfl
theorem stk_top {a : Int32} (hst : st.headD (-1) ≠ a) (lg o : Bool) (h10 : a ≠ 10) (h11 : a ≠ 11) : (stk lg o 10 11 st).headD (-1) ≠ a := by
  cases lg with
  | true => exact fun q => h10 q.symm
  | false => cases o with
    | true => exact fun q => h11 q.symm
    | false => exact hst
theorem test_loop (hG : GI G) (hst : st.headD (-1) ≠ 9 ∧ st.headD (-1) ≠ 10 ∧ st.headD (-1) ≠ 11) (IH : ∀ st wr w k E C nt, TI N T r c dp st wr w k E C nt 1 → FcE G N T r c dp st wr w k E C (rf (nI dp) wr)) : ∀ (d k E C nt i v3 m2 : Nat) (lg o : Bool) (wr w wz : MS), tK N T + 1 - k ≤ d → v3 ≤ k → d < m2 → TL G N T r c dp st lg o wr0 w0 wr w wz k E C nt E0 C0 i → TsE G N T r c dp st wr0 w0 k E0 C0 0 wz (ob (if lg = true then s_X3_write G (-316) wr else some wr) fun wr => lw2 (S_X3_readTest_9 G rf (nI dp) (KT G)) m2 (cond o 1 0) (nI v3) wr)
  | 0, k, E, C, nt, i, v3, m2, lg, o, wr, w, wz, hd, hv, hm, h => by have := h.1.1.2.2.1.1; omega
  | d + 1, k, E, C, nt, i, v3, 0, lg, o, wr, w, wz, hd, hv, hm, h => by omega
  | d + 1, k, E, C, nt, i, v3, m2 + 1, lg, o, wr, w, wz, hd, hv, hm, h => by
    obtain ⟨hTI, hz, hi, hA, hF, hE, hC0, hWr, hty⟩ := h
    have hTb := hTI.bl
    obtain ⟨hK, hXc, hC, hTw, hW⟩ := id hTI.1
    have hr6 := hTI.2.2.1.2.2.1
    have hN := hTw.1
    have hK4 := tK_le N T
    have hk4 := hC.1
    have tle := tp_le (N := N) (T := T) k
    have a9 : p_X12_answers G 9 wz = some w := by
      unfold p_X12_answers
      rw [bN_i (i := i) (by omega), hA]
      exact an_no hTI.2.2.2.2.1 (stk_top hst.1 lg o (by decide) (by decide))
    have bl := blanks_W (G := G) hTw hW
    have f33 : (w_si w 0 33 (nI (tp N T k))).1 0 33 = nI (tp N T k) := w_si_s _ _ _ _
    have hTx := hTb.1.2.2.2.1
    have s23 := p_stood' (G := G) hG (ws_R (j := 16) (by decide)) hTx f33 (by omega)
    have s24 := p_stood' (G := G) hG (ws_R (j := 15) (by decide)) hTx f33 (by omega)
    have y16 := sy_wd (N := N) (T := T) (p := tp N T k) (k := k) (w := w) (j := 16) (by decide) hTw
    have y15 := sy_wd (N := N) (T := T) (p := tp N T k) (k := k) (w := w) (j := 15) (by decide) hTw
    have fb : FrT r c E wr w wr (w_si w 0 33 (nI (tp N T k))) := FrT.b33
    have eb : ent (w_si w 0 33 (nI (tp N T k))).1 r = ent w.1 r := ent_33
    generalize w_si w 0 33 (nI (tp N T k)) = wb at hTb bl f33 hTx s23 s24 fb eb
    have h10 : (cond o (11 :: st) st).headD (-1) ≠ (10 : Int32) := by
      cases o with
      | true => show (11 : Int32) ≠ 10; decide
      | false => exact hst.2.1
    obtain ⟨wr1, w1, p1, p2, p3, p4, p5, p6, p7, p8⟩ := popo (G := G) (a := 10) (y := -316) (st := cond o (11 :: st) st) (Or.inl ⟨rfl, rfl⟩) lg h10 hTb
    rw [p1, u_ob]
    have hF1 : FrT r c E0 wr0 w0 wr1 w1 := (hF.tr fb hE).tr p4 hE
    have hW1 : WrE r c wr1 w1 E0 (E + lg.toNat) := p7 E0 (hWr.frT hr6 fb)
    have hE1 : E0 ≤ E + lg.toNat := by omega
    have hty1 : ∀ ts, ts.length ≤ C0 → tyR ts (seg (ent w1.1 r) (E + lg.toNat - E0) E0) = some (true :: cond o (true :: ts) ts) := fun ts hts => by
      refine p8 E0 ts (cond o (true :: ts) ts) hE ?_
      rw [eb]; exact hty ts hts
    have e7 : wr1.1 0 7 = syv wlR N T (tp N T k) := p3.1.2.2.1.2.2.1
    have e9 : wr1.1 0 9 = 0 := p3.1.2.2.1.2.2.2.2
    have e33 : w1.1 0 33 = nI (tp N T k) := p5.trans f33
    generalize E + lg.toNat = E1 at p3 hW1 hE1 hty1
    -- one fact more, and on
    have next : ∀ (lg' o' : Bool) (wrA wA : MS) (E2 : Nat), TI N T r c dp (stk lg' o' 10 11 st) wrA wA (k + 1) E2 C nt 1 → FrT r c E0 wr0 w0 wrA wA → E0 ≤ E2 → C0 + lg'.toNat + o'.toNat ≤ C → WrE r c wrA wA E0 E2 → (∀ ts, ts.length ≤ C0 → tyR ts (seg (ent wA.1 r) (E2 - E0) E0) = some (stk lg' o' true true ts)) → (∀ m, lw2 (P_X12_test_9 G) (m + 1) 0 1 wz = lw2 (P_X12_test_9 G) m 1 1 wA) → TsE G N T r c dp st wr0 w0 k E0 C0 0 wz (ob (rf (nI dp) wrA) fun w11 => ob (if lg' = true then s_X3_write G (-316) w11 else some w11) fun wr => lw2 (S_X3_readTest_9 G rf (nI dp) (KT G)) m2 (cond o' 1 0) (nI (v3 + 1)) wr) := fun lg' o' wrA wA E2 hT2 hF2 hE2 hC2 hW2 ht2 step => by
      obtain ⟨wr2, w2, k2, f2, b1, b2, b3, b4, b5⟩ := IH _ wrA wA (k + 1) E2 C nt hT2
      have hk1 : k + 1 ≤ tK N T := hT2.1.2.2.1.1
      rw [b1, u_ob]
      by_cases z : f2 = 0
      · obtain ⟨wzz, j, i2, E', C', nt', y1, y2, y3, y4, y5, y6, y7, y8, y9, y10, y11⟩ := b5 z
        have hk2 : k2 ≤ tK N T := y6.1.2.2.1.1
        have hWn : WrE r c wr2 w2 E0 E' := fun q u1 u2 => by
          by_cases y : q < E2
          · exact (hW2.frT hr6 b2) q u1 y
          · exact y10 q (by omega) u2
        have hTn : ∀ ts, ts.length ≤ C0 → tyR ts (seg (ent w2.1 r) (E' - E0) E0) = some (true :: stk lg' o' true true ts) := fun ts hts => by
          rw [show E' - E0 = (E2 - E0) + (E' - E2) by omega, seg_add, show E0 + (E2 - E0) = E2 by omega, tyR_app _ _ _ (stk lg' o' true true ts)]
          · exact y11 _ (by rw [stk_len]; omega)
          · rw [seg_cg (es := ent wA.1 r) (fun q u1 u2 => b2.en hr6 (by omega))]; exact ht2 ts hts
        obtain ⟨wr', w', k', f', g1, g2, g3, g4, g5⟩ := test_loop hG hst IH d k2 E' C' nt' i2 (v3 + 1) m2 lg' o' wr2 w2 wzz (by omega) (by omega) (by omega) ⟨y6, y3, by omega, y5, hF2.tr b2 hE2, by omega, by omega, hWn, hTn⟩
        refine ⟨wr', w', k', f', g1, g2, g3, fun q => ?_, fun q => ?_⟩
        · obtain ⟨q1, j', q2, q3⟩ := g4 q
          exact ⟨q1, j' + (j + 1), by omega, fun m => by rw [show m + 1 + (j' + (j + 1)) = (m + 1 + j' + j) + 1 by omega, step, y2]; exact q3 m⟩
        · obtain ⟨wy, j', E3, C3, nt3, q1, q2, q3, q4, q5, q6, q7⟩ := g5 q
          exact ⟨wy, j' + (j + 1), E3, C3, nt3, by omega, fun m => by rw [show m + (j' + (j + 1)) = (m + j' + j) + 1 by omega, step, y2]; exact q2 m, q3, q4, q5, by omega, q7⟩
      · obtain ⟨q1, j, q2, q3⟩ := b4 z
        obtain ⟨m3, rfl⟩ : ∃ q, m2 = q + 1 := ⟨m2 - 1, by omega⟩
        have hlg : ∃ wr3, (if lg' = true then s_X3_write G (-316) wr2 else some wr2) = some wr3 ∧ Syn wlR N T wr3 w2 k2 f2 ∧ FrT r c E2 wr2 w2 wr3 w2 ∧ ∃ W, wr3.1 6 2 = nI W ∧ W ≤ 400 ∧ E2 + c ≤ W := by
          cases lg' with
          | false => exact ⟨wr2, if_neg (by decide), q1, FrT.rf, b3⟩
          | true =>
            obtain ⟨wr3, o1, o2, o3, o4⟩ := any_F (G := G) (r := r) q1 b3 (-316)
            exact ⟨wr3, by rw [if_pos rfl]; exact o1, o2, o3.t, o4⟩
        obtain ⟨wr3, o1, o2, o3, o4⟩ := hlg
        obtain ⟨wr4, r1, r2, r3, W, r4, r5, r6⟩ := KT_F (G := G) (r := r) o2 o4 (cond o' 1 0)
        rw [o1, u_ob, c9_F (by rw [o2.2.2.1.2.2.2.2]; exact z), r1]
        exact ⟨wr4, w2, k2, f2, rfl, ((hF2.tr b2 hE2).tr o3 hE2).tr r3 hE2, ⟨W, r4, r5, by omega⟩, fun _ => ⟨r2, j + 1, by omega, fun m => by rw [show m + 1 + (j + 1) = (m + 1 + j) + 1 by omega, step]; exact q3 m⟩, fun q => absurd q z⟩
    by_cases za : wd N T (wlR.getD 16 []) (tp N T k) = true
    · have z16 := y16.mpr za
      have zo : ¬ wd N T (wlR.getD 15 []) (tp N T k) = true := fun q => absurd ((nI_eq (a := 300 + 15) (b := 300 + 16) (by decide) (by decide)).mp ((y15.mpr q).symm.trans z16)) (by decide)
      rw [if_pos za] at s23
      rw [if_neg zo] at s24
      obtain ⟨w17, wrA, j1, j2, j3, j4, j5, j6, j7⟩ := joint_adv (G := G) (a := 10) (Or.inl rfl) (q := 16) (l := 3) (by decide) za rfl p3 e33
      have step := fun m => ts_and (G := G) (m := m) hz a9 bl s23 s24 p2 j1
      rw [c9_and e9 (show v3 < 400 by omega) (e7.trans z16), j2, u_ob]
      have e0 : (if (cond o 1 0 : Int32) = 0 then (0 : Int32) else 1) = cond o 1 0 := by cases o <;> rfl
      rw [e0]
      have nx := next true o wrA _ E1 j7 (hF1.tr j3 hE1) hE1 (by show C0 + 1 + o.toNat ≤ C; omega) (hW1.frT hr6 j3) (fun ts hts => by rw [j4]; exact hty1 ts hts) step
      simp only [if_true] at nx
      exact nx
    · rw [if_neg za] at s23
      by_cases zo : wd N T (wlR.getD 15 []) (tp N T k) = true
      · have z15 := y15.mpr zo
        rw [if_pos zo] at s24
        obtain ⟨wr2, w2, q1, q2, q3, q4, q5, q6, q7, q8⟩ := popo (G := G) (a := 11) (y := -315) (st := st) (Or.inr ⟨rfl, rfl⟩) o hst.2.2 p3
        have e33' : w2.1 0 33 = nI (tp N T k) := q5.trans e33
        obtain ⟨w17, wrA, j1, j2, j3, j4, j5, j6, j7⟩ := joint_adv (G := G) (a := 11) (Or.inr rfl) (q := 15) (l := 2) (by decide) zo rfl q3 e33'
        have step := fun m => ts_or (G := G) (m := m) hz a9 bl s23 s24 p2 q2 j1
        rw [c9_or e9 (show v3 < 400 by omega) (e7.trans z15)]
        have e0 : (if (cond o 1 0 : Int32) = 0 then some wr1 else s_X3_write G (-315) wr1) = some wr2 := by
          rw [← q1]; cases o <;> rfl
        rw [e0, u_ob, j2, u_ob]
        have nx := next false true wrA _ (E1 + o.toNat) j7 ((hF1.tr q4 hE1).tr j3 (by omega)) (by omega) (by show C0 + 0 + 1 ≤ C; omega) ((q7 E0 hW1).frT hr6 j3) (fun ts hts => by rw [j4]; exact q8 E0 ts ts hE1 (hty1 ts hts)) step
        simp only [u_ob, if_neg (show ¬ false = true by decide)] at nx
        exact nx
      · rw [if_neg zo] at s24
        obtain ⟨wr2, w2, q1, q2, q3, q4, q5, q6, q7, q8⟩ := popo (G := G) (a := 11) (y := -315) (st := st) (Or.inr ⟨rfl, rfl⟩) o hst.2.2 p3
        rw [c9_no e9 (by rw [e7]; exact fun q => zo (y15.mp q)) (by rw [e7]; exact fun q => za (y16.mp q)), KT_c, q1]
        have g4 := q3.2.1.2.2.2.1
        have hc := q3.2.2.1.2.2.2
        have hB := q3.2.2.2.2.2.2.1
        have n133 := nt_le q3.2.2.2.2.2.2.2 hN
        exact ⟨wr2, w2, k, 0, rfl, hF1.tr q4 hE1, ⟨E1 + o.toNat + c, g4, by omega, by omega⟩, fun q => absurd rfl q, fun _ => ⟨wz, 0, E1 + o.toNat, C, nt, by omega, fun m => rfl, ⟨hz, w, wb, w1, a9, bl, s23, s24, p2, q2⟩, q5.trans e33, q3, Nat.le_refl _, by omega, by omega, q7 E0 hW1, fun ts hts => q8 E0 ts ts hE1 (hty1 ts hts)⟩⟩
theorem test_both (hG : GI G) (hst : st.headD (-1) ≠ 9 ∧ st.headD (-1) ≠ 10 ∧ st.headD (-1) ≠ 11) (IH : ∀ st wr w k E C nt, TI N T r c dp st wr w k E C nt 1 → FcE G N T r c dp st wr w k E C (rf (nI dp) wr)) (h : TI N T r c dp st wr w k E C nt 1) : TsE G N T r c dp st wr w k E C 1 w (s_X3_readTest G rf (nI dp) wr) := by
  obtain ⟨wr2, w2, k2, f2, b1, b2, b3, b4, b5⟩ := IH _ wr w k E C nt h
  have hN := h.1.2.2.2.1.1
  have hK4 := tK_le N T
  have hk1 : k ≤ tK N T := h.1.2.2.1.1
  rw [test_eC, b1, u_ob]
  by_cases z : f2 = 0
  · obtain ⟨wzz, j, i2, E', C', nt', y1, y2, y3, y4, y5, y6, y7, y8, y9, y10, y11⟩ := b5 z
    have hk2 : k2 ≤ tK N T := y6.1.2.2.1.1
    have tl := test_loop (wr0 := wr) (w0 := w) (E0 := E) (C0 := C) hG hst IH (tK N T + 1) k2 E' C' nt' i2 0 bN false false wr2 w2 wzz (by omega) (by omega) (bN_gt (by omega)) ⟨y6, y3, by omega, y5, b2, y8, by show C + 1 + 0 + 0 ≤ C'; omega, y10, y11⟩
    rw [if_neg (show ¬ false = true by decide), u_ob] at tl
    obtain ⟨wr', w', k', f', g1, g2, g3, g4, g5⟩ := tl
    refine ⟨wr', w', k', f', g1, g2, g3, fun q => ?_, fun q => ?_⟩
    · obtain ⟨q1, j', q2, q3⟩ := g4 q
      exact ⟨q1, j' + j, by omega, fun m => by rw [show m + 1 + (j' + j) = m + 1 + j' + j by omega, y2]; exact q3 m⟩
    · obtain ⟨wy, j', E3, C3, nt3, q1, q2, q3, q4, q5, q6, q7⟩ := g5 q
      exact ⟨wy, j' + j, E3, C3, nt3, by omega, fun m => by rw [show m + (j' + j) = m + j' + j by omega, y2]; exact q2 m, q3, q4, q5, by omega, q7⟩
  · obtain ⟨q1, j, q2, q3⟩ := b4 z
    refine ⟨wr2, w2, k2, f2, ?_, b2, b3, fun _ => ⟨q1, j, q2, q3⟩, fun q => absurd q z⟩
    rw [bN_i (i := 0) (by decide), c9_F (by rw [q1.2.2.1.2.2.2.2]; exact z)]
    rfl
end
