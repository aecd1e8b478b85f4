/-! PURE 99yq: a rule's clauses, one after another. -/
/-- the clauses read so far -/
def LwC (r c : Nat) (g : Nat → Int32) (v : VV) (E : Nat) : Prop := ∃ S Tm En : Nat → Nat, S 0 = 0 ∧ S c = E ∧ ∀ q, q < c → v 46 (12 * r + q) = nI (S q) ∧ v 47 (12 * r + q) = nI (Tm q) ∧ v 48 (12 * r + q) = nI (En q) ∧ S q ≤ Tm q ∧ Tm q ≤ En q ∧ S (q + 1) = En q ∧ En q ≤ E ∧ tyR [] (seg (ent v r) (Tm q - S q) (S q)) = some [false] ∧ (Tm q = En q ∨ tyR [] (seg (ent v r) (En q - Tm q) (Tm q)) = some [true]) ∧ (∀ k, S q ≤ k → k < En q → EV (ent v r k) ∧ g (k + q) = encI (ent v r k)) ∧ g (En q + q) = if Tm q = En q then -313 else -314
/-- frames of a rule: the rules before -/
def FrL (r : Nat) (w w' : MS) : Prop := (∀ x, x ≠ 0 → x ≠ 43 → x ≠ 44 → x ≠ 46 → x ≠ 47 → x ≠ 48 → x ≠ 49 → w'.1 x = w.1 x) ∧ (∀ j, j ≠ 33 → j ≠ 34 → j ≠ 37 → j ≠ 38 → j ≠ 39 → j ≠ 40 → w'.1 0 j = w.1 0 j) ∧ (∀ j, j < 300 * r → w'.1 43 j = w.1 43 j ∧ w'.1 44 j = w.1 44 j) ∧ ∀ j, j < 12 * r → w'.1 46 j = w.1 46 j ∧ w'.1 47 j = w.1 47 j ∧ w'.1 48 j = w.1 48 j
def RlE (X r : Nat) (h : AH) (w : MS) (h' : AH) (w' : MS) (c' : Nat) : Prop := RI h' (X + 1) ∧ m_i h' (X + 1) 9 = w'.1 0 34 ∧ FO (w'.1 0 34) ∧ Fr (RW X) h h' ∧ FrL r w w' ∧ (w'.1 0 34 = 0 → c' ≤ 12 ∧ ∃ E, E ≤ 299 ∧ m_i h' (X + 7) 2 = nI (E + c') ∧ LwC r c' (m_i h' (X + 8)) w'.1 E)
section
variable {G : GG} {X N k r c E C nt x : Nat} {T : Nat → Nat} {h h1 h' : AH} {w w' w1 wr wr' : MS} {f : Int32} {wl : List (List Nat)}
theorem FrK.l (a : FrK r c E w w') : FrL r w w' := ⟨a.1, a.2.1, fun j hj => a.2.2.1 j (Or.inl (by omega)), fun j hj => a.2.2.2 j (by omega)⟩
theorem FrL.tr (a : FrL r w w1) (b : FrL r w1 w') : FrL r w w' := ⟨fun x q1 q2 q3 q4 q5 q6 q7 => (b.1 x q1 q2 q3 q4 q5 q6 q7).trans (a.1 x q1 q2 q3 q4 q5 q6 q7), fun j q1 q2 q3 q4 q5 q6 => (b.2.1 j q1 q2 q3 q4 q5 q6).trans (a.2.1 j q1 q2 q3 q4 q5 q6), fun j hj => ⟨(b.2.2.1 j hj).1.trans (a.2.2.1 j hj).1, (b.2.2.1 j hj).2.trans (a.2.2.1 j hj).2⟩, fun j hj => ⟨(b.2.2.2 j hj).1.trans (a.2.2.2 j hj).1, (b.2.2.2 j hj).2.1.trans (a.2.2.2 j hj).2.1, (b.2.2.2 j hj).2.2.trans (a.2.2.2 j hj).2.2⟩⟩
theorem FrW.l (a : FrW w w') : FrL r w w' := (FrK.ofW (c := 0) (E := 0) a).l
theorem RlE.pre {c' : Nat} (a : RlE X r h1 w1 h' w' c') (hF : Fr (RW X) h h1) (hL : FrL r w w1) : RlE X r h w h' w' c' := ⟨a.1, a.2.1, a.2.2.1, hF.tr a.2.2.2.1, hL.tr a.2.2.2.2.1, a.2.2.2.2.2⟩
/-- one clause more -/
theorem LwC.step {g g' : Nat → Int32} {Tm E' : Nat} (hL : LwC r c g w.1 E) (hK : FrK r c E w w') (h1 : E ≤ Tm) (h2 : Tm ≤ E') (h3 : w'.1 46 (12 * r + c) = nI E ∧ w'.1 47 (12 * r + c) = nI Tm ∧ w'.1 48 (12 * r + c) = nI E') (t1 : tyR [] (seg (ent w'.1 r) (Tm - E) E) = some [false]) (t2 : Tm = E' ∨ tyR [] (seg (ent w'.1 r) (E' - Tm) Tm) = some [true]) (hw : ∀ i, E ≤ i → i < E' → EV (ent w'.1 r i) ∧ g' (i + c) = encI (ent w'.1 r i)) (hl : g' (E' + c) = if Tm = E' then -313 else -314) (hg : ∀ j, j < E + c → g' j = g j) : LwC r (c + 1) g' w'.1 E' := by
  obtain ⟨S, Tn, En, s0, sc, hq⟩ := hL
  refine ⟨fun q => if q ≤ c then S q else E', fun q => if q < c then Tn q else Tm, fun q => if q < c then En q else E', ?_, ?_, fun q hqc => ?_⟩
  · show (if 0 ≤ c then S 0 else E') = 0
    rw [if_pos (Nat.zero_le _)]; exact s0
  · show (if c + 1 ≤ c then S (c + 1) else E') = E'
    rw [if_neg (by omega)]
  · show w'.1 46 (12 * r + q) = nI (if q ≤ c then S q else E') ∧ w'.1 47 (12 * r + q) = nI (if q < c then Tn q else Tm) ∧ w'.1 48 (12 * r + q) = nI (if q < c then En q else E') ∧ (if q ≤ c then S q else E') ≤ (if q < c then Tn q else Tm) ∧ (if q < c then Tn q else Tm) ≤ (if q < c then En q else E') ∧ (if q + 1 ≤ c then S (q + 1) else E') = (if q < c then En q else E') ∧ (if q < c then En q else E') ≤ E' ∧ tyR [] (seg (ent w'.1 r) ((if q < c then Tn q else Tm) - (if q ≤ c then S q else E')) (if q ≤ c then S q else E')) = some [false] ∧ ((if q < c then Tn q else Tm) = (if q < c then En q else E') ∨ tyR [] (seg (ent w'.1 r) ((if q < c then En q else E') - (if q < c then Tn q else Tm)) (if q < c then Tn q else Tm)) = some [true]) ∧ (∀ k, (if q ≤ c then S q else E') ≤ k → k < (if q < c then En q else E') → EV (ent w'.1 r k) ∧ g' (k + q) = encI (ent w'.1 r k)) ∧ g' ((if q < c then En q else E') + q) = if (if q < c then Tn q else Tm) = (if q < c then En q else E') then -313 else -314
    by_cases z : q < c
    · obtain ⟨a1, a2, a3, a4, a5, a6, a7, a8, a9, a10, a11⟩ := hq q z
      have en : ∀ i, i < E → ent w'.1 r i = ent w.1 r i := fun i hi => by
        have := hK.2.2.1 (300 * r + i) (Or.inl (by omega))
        unfold ent; rw [this.1, this.2]
      have k3 := hK.2.2.2 (12 * r + q) (by omega)
      rw [if_pos (show q ≤ c by omega), if_pos z, if_pos z, if_pos (show q + 1 ≤ c by omega), k3.1, k3.2.1, k3.2.2]
      refine ⟨a1, a2, a3, a4, a5, a6, by omega, ?_, ?_, fun i u1 u2 => ?_, ?_⟩
      · rw [seg_cg (es := ent w.1 r) (fun i q1 q2 => en i (by omega))]; exact a8
      · rw [seg_cg (es := ent w.1 r) (fun i q1 q2 => en i (by omega))]; exact a9
      · rw [en i (by omega), hg (i + q) (by omega)]; exact a10 i u1 u2
      · rw [hg (En q + q) (by omega)]; exact a11
    · have : q = c := by omega
      subst this
      rw [if_pos (Nat.le_refl q), if_neg z, if_neg z, if_neg (show ¬ q + 1 ≤ q by omega), sc]
      exact ⟨h3.1, h3.2.1, h3.2.2, h1, h2, rfl, Nat.le_refl _, t1, t2, hw, hl⟩
theorem rule_loop (hG : GI G) (hr6 : r < 6) : ∀ (d c m m' : Nat) (h : AH) (w : MS) (k E C nt : Nat), c + d = 12 → d + 2 ≤ m → d + 2 ≤ m' → RI h (X + 1) → Syn wlR N T (rs_of h (X + 1)) w k 0 → Gd r c (rs_of h (X + 1)) w E C → w.1 0 41 = 13 → w.1 0 35 = nI r → w.1 0 38 = 0 → E + 2 * (60 - C) ≤ 120 + nt → 3 * nt ≤ tp N T k → LwC r c ((rs_of h (X + 1)).1 7) w.1 E → ∃ h' w' c', (∀ K, lq2 (F_X3_readLaw_23 G (X + 7) K) m 1 (nI c) h = K h') ∧ (∀ K, lw2 (P_X12_rule_27 G K) m' (nI c) 1 w = K (nI c') w') ∧ RlE X r h w h' w' c'
  | d, c, 0, m', h, w, k, E, C, nt, e, hm, hm', hI, hs, hg, h41, h35, h38, hB, hnt, hL => by omega
  | d, c, 1, m', h, w, k, E, C, nt, e, hm, hm', hI, hs, hg, h41, h35, h38, hB, hnt, hL => by omega
  | d, c, m + 2, 0, h, w, k, E, C, nt, e, hm, hm', hI, hs, hg, h41, h35, h38, hB, hnt, hL => by omega
  | d, c, m + 2, 1, h, w, k, E, C, nt, e, hm, hm', hI, hs, hg, h41, h35, h38, hB, hnt, hL => by omega
  | d, c, m + 2, m' + 2, h, w, k, E, C, nt, e, hm, hm', hI, hs, hg, h41, h35, h38, hB, hnt, hL => by
    obtain ⟨h1, w1, k1, f1, a1, a2, a3, a4, a5, a6, a7⟩ := clR (G := G) hG hI hs hg h41 h35 h38 hr6 (by omega) hB hnt
    obtain ⟨hK1, hX1, hC1, hT1, hW1⟩ := id a5
    have hN := hT1.1
    have cl : ∀ K, lq2 (F_X3_readLaw_23 G (X + 7) K) (m + 2) 1 (nI c) h = if m_i h1 (X + 1) 7 = 257 then lq2 (F_X3_readLaw_23 G (X + 7) K) (m + 1) 0 (nI (c + 1)) h1 else ob (lrv 0 (X + 1) (s_X8_takeByte G 59) h1) fun h2 => lq2 (F_X3_readLaw_23 G (X + 7) K) (m + 1) 1 (nI (c + 1)) h2 := fun K => a1 K (lq2 (F_X3_readLaw_23 G (X + 7) K) (m + 1))
    have rf : ∀ K, lw2 (P_X12_rule_27 G K) (m' + 2) (nI c) 1 w = cw (p_X12_goesOn G w1) fun r11 w9 => lw2 (P_X12_rule_27 G K) (m' + 1) (nI (c + 1)) r11 w9 := fun K => by
      show P_X12_rule_27 G K (lw2 (P_X12_rule_27 G K) (m' + 1)) (nI c) 1 w = _
      unfold P_X12_rule_27
      rw [if_neg n10, a2, u_ob, nI_1, u_nn]
    have rs : ∀ K w2, lw2 (P_X12_rule_27 G K) (m' + 1) (nI (c + 1)) 0 w2 = K (nI (c + 1)) w2 := fun K w2 => by
      show P_X12_rule_27 G K (lw2 (P_X12_rule_27 G K) m') (nI (c + 1)) 0 w2 = _
      unfold P_X12_rule_27
      rw [if_pos rfl]
    have s0 : ∀ K h2, lq2 (F_X3_readLaw_23 G (X + 7) K) (m + 1) 0 (nI (c + 1)) h2 = K h2 := fun K h2 => by
      show F_X3_readLaw_23 G (X + 7) K (lq2 (F_X3_readLaw_23 G (X + 7) K) m) 0 (nI (c + 1)) h2 = _
      unfold F_X3_readLaw_23
      by_cases y : (12 : Int32) < nI (c + 1)
      · rw [if_pos y]
      · rw [if_neg y, if_pos rfl]
    have sF : ∀ K h2, RI h2 (X + 1) → m_i h2 (X + 1) 9 ≠ 0 → lq2 (F_X3_readLaw_23 G (X + 7) K) (m + 1) 1 (nI (c + 1)) h2 = K h2 := fun K h2 hI2 h9 => by
      obtain ⟨p1, p2, p3, -, -⟩ := rd7 hI2
      show F_X3_readLaw_23 G (X + 7) K (lq2 (F_X3_readLaw_23 G (X + 7) K) m) 1 (nI (c + 1)) h2 = _
      unfold F_X3_readLaw_23
      by_cases y : (12 : Int32) < nI (c + 1)
      · rw [if_pos y]
      · rw [if_neg y, if_neg n10, u_ck p1, p2, u_ob, u_ck p3, if_neg h9]
    have l20 : wlR.length ≤ 20 := by decide
    have e7 : m_i h1 (X + 1) 7 = syv wlR N T (tp N T k1) := hC1.2.2.1
    have e9 : m_i h1 (X + 1) 9 = f1 := hC1.2.2.2.2
    by_cases z : f1 = 0
    rotate_left
    · -- a fault in the clause
      obtain ⟨w2, g1, g2, g3⟩ := go_F (G := G) hT1 hW1 z
      obtain ⟨-, p, -, ⟨-, fo⟩, -⟩ := hW1
      by_cases y : m_i h1 (X + 1) 7 = 257
      · exact ⟨h1, w2, c + 1, fun K => by rw [cl, if_pos y, s0], fun K => by rw [rf, g1, u_cw, rs], a3, by rw [g3]; exact e9, by rw [g3]; exact fo, a4, a6.l.tr g2.l, fun q => absurd (g3.symm.trans q) z⟩
      · obtain ⟨wr', k', b1, b2, b3⟩ := takeB_F (G := G) a5 z (b := 59) (by decide) (by decide) (by decide) (by decide)
        obtain ⟨d1, d2⟩ := rhR (h := h1) (X := X) (wr' := wr') (fun x q _ _ => b2.1 x q)
        have L := lrv_e (P := s_X8_takeByte G (nI 59)) a3 b1
        have I2 : RI (rh h1 (X + 1) wr') (X + 1) := a3.cg rfl rfl
        have s2 := b3.e d2
        generalize rh h1 (X + 1) wr' = h2 at d1 d2 L I2 s2
        have e92 : m_i h2 (X + 1) 9 = f1 := s2.2.2.1.2.2.2.2
        exact ⟨h2, w2, c + 1, fun K => by rw [cl, if_neg y, show lrv 0 (X + 1) (s_X8_takeByte G 59) h1 = some h2 from L, u_ob, sF K h2 I2 (by rw [e92]; exact z)], fun K => by rw [rf, g1, u_cw, rs], I2, by rw [g3]; exact e92, by rw [g3]; exact fo, a4.tr d1, a6.l.tr g2.l, fun q => absurd (g3.symm.trans q) z⟩
    subst z
    obtain ⟨hc12, Tm, E', C', nt', b1, b2, b3, b4, b5, b6, b7, b8, b9, b10, b11, b12⟩ := a7 rfl
    have hL' : LwC r (c + 1) ((rs_of h1 (X + 1)).1 7) w1.1 E' := hL.step a6 b2 b3 b7 b8 b9 b10 b11 b12
    have n133 := nt_le b5 hN
    by_cases y : tp N T k1 < N
    rotate_left
    · -- the end
      obtain ⟨w2, g1, g2, g3⟩ := go_E (G := G) hT1 hW1 y
      refine ⟨h1, w2, c + 1, fun K => by rw [cl, if_pos (e7.trans ((sy_end l20 hT1).mpr y)), s0], fun K => by rw [rf, g1, u_cw, rs], a3, by rw [g3]; exact e9, by rw [g3]; exact FO_0, a4, a6.l.tr g2.l, fun _ => ⟨by omega, E', by omega, ?_, ?_⟩⟩
      · exact b1.2.2.2.1
      · obtain ⟨S, Tn, En, s0, sc, hq⟩ := hL'
        have en : ent w2.1 r = ent w1.1 r := by funext i; unfold ent; rw [g2.1 43 (by decide), g2.1 44 (by decide)]
        refine ⟨S, Tn, En, s0, sc, fun q hq' => ?_⟩
        rw [g2.1 46 (by decide), g2.1 47 (by decide), g2.1 48 (by decide), en]
        exact hq q hq'
    · have ne7 : ¬ m_i h1 (X + 1) 7 = 257 := fun q => (sy_end l20 hT1).mp (e7.symm.trans q) y
      obtain ⟨sb1, sb2⟩ := sy_byte (wl := wlR) (p := tp N T k1) l20 hT1 (c := 59) (by decide) (by decide) (by decide) (by decide)
      by_cases x : T (tp N T k1) = 59
      · have hk : k1 < tK N T := (tp_K hC1.1).mp y
        have gY := go_Y (G := G) hT1 hW1 y x
        have gW : FrW w1 (w_si (w_si w1 0 33 (nI (tp N T k1))) 0 33 (nI (tp N T k1 + 1))) := (FrW.s (Or.inl rfl)).tr (FrW.s (Or.inl rfl))
        have g34 : (w_si (w_si w1 0 33 (nI (tp N T k1))) 0 33 (nI (tp N T k1 + 1))).1 0 34 = 0 := by rw [w_si_j (by decide), w_si_j (by decide)]; exact hW1.1
        have g33 : (w_si (w_si w1 0 33 (nI (tp N T k1))) 0 33 (nI (tp N T k1 + 1))).1 0 33 = nI (tp N T k1 + 1) := w_si_s _ _ _ _
        generalize w_si (w_si w1 0 33 (nI (tp N T k1))) 0 33 (nI (tp N T k1 + 1)) = w2 at gY gW g34 g33
        obtain ⟨wrB, v1, v2, v3⟩ := word_adv (G := G) a5 hk (sb2 y x) (w1 := w2) (gW.2 32 (by decide) (by decide)) (gW.1 42 (by decide)) g34 g33
        have tk : s_X8_takeByte G 59 (rs_of h1 (X + 1)) = some wrB := by
          unfold s_X8_takeByte
          rw [if_pos (show (rs_of h1 (X + 1)).1 0 7 = (59 : Int32) from hC1.2.2.1.trans (sb1.mpr ⟨y, x⟩)), v1, u_ob]
        obtain ⟨d1, d2⟩ := rhR (h := h1) (X := X) (wr' := wrB) (fun x q _ _ => v2.1 x q)
        have L := lrv_e (P := s_X8_takeByte G 59) a3 tk
        have I2 : RI (rh h1 (X + 1) wrB) (X + 1) := a3.cg rfl rfl
        have s2 := v3.e d2
        have g2 : Gd r (c + 1) (rs_of (rh h1 (X + 1) wrB) (X + 1)) w2 E' C' := (b1.of v2 gW).e d2
        have r7 : (rs_of (rh h1 (X + 1) wrB) (X + 1)).1 7 = (rs_of h1 (X + 1)).1 7 := by rw [d2, v2.1 7 (by decide)]
        generalize rh h1 (X + 1) wrB = h2 at d1 d2 L I2 s2 g2 r7
        obtain ⟨d', rfl⟩ : ∃ d', d = d' + 1 := ⟨d - 1, by omega⟩
        have tm2 := tp_mono (N := N) (T := T) (show k1 ≤ k1 + 1 by omega)
        have j0 : ∀ j, j ≠ 33 → j ≠ 34 → j ≠ 37 → j ≠ 38 → j ≠ 39 → j ≠ 40 → w2.1 0 j = w.1 0 j := fun j q1 q2 q3 q4 q5 q6 => by rw [gW.2 j q1 q2, a6.2.1 j q1 q2 q3 q4 q5 q6]
        obtain ⟨h', w', c', f1', f2', f3'⟩ := rule_loop hG hr6 d' (c + 1) (m + 1) (m' + 1) h2 w2 (k1 + 1) E' C' nt' (by omega) (by omega) (by omega) I2 s2 g2 (by rw [j0 41 (by decide) (by decide) (by decide) (by decide) (by decide) (by decide)]; exact h41) (by rw [j0 35 (by decide) (by decide) (by decide) (by decide) (by decide) (by decide)]; exact h35) (by rw [gW.2 38 (by decide) (by decide)]; exact b6) b4 (by omega) (by
          rw [r7]
          obtain ⟨S, Tn, En, s0, sc, hq⟩ := hL'
          have en : ent w2.1 r = ent w1.1 r := by funext i; unfold ent; rw [gW.1 43 (by decide), gW.1 44 (by decide)]
          refine ⟨S, Tn, En, s0, sc, fun q hq' => ?_⟩
          rw [gW.1 46 (by decide), gW.1 47 (by decide), gW.1 48 (by decide), en]
          exact hq q hq')
        exact ⟨h', w', c', fun K => by rw [cl, if_neg ne7, L, u_ob, f1'], fun K => by rw [rf, gY, u_cw, f2'], f3'.pre (a4.tr d1) (a6.l.tr gW.l)⟩
      · obtain ⟨w2, g1, g2, g3⟩ := go_N (G := G) hT1 hW1 y x
        obtain ⟨wrB, v1, v2, v3, v4⟩ := q_fail (G := G) hN hK1 hC1 (nI 0)
        rw [if_pos rfl] at v4
        have hne := flt_ne (N := N) (T := T) (k := k1) (c := 0) hN (by decide)
        have tk : s_X8_takeByte G 59 (rs_of h1 (X + 1)) = some wrB := by
          unfold s_X8_takeByte
          rw [if_neg (show ¬ (rs_of h1 (X + 1)).1 0 7 = (59 : Int32) from fun q => x (sb1.mp (hC1.2.2.1.symm.trans q)).2), show s_X8_fail G (0 : Int32) (rs_of h1 (X + 1)) = some wrB from v1, u_ob]
        obtain ⟨d1, d2⟩ := rhR (h := h1) (X := X) (wr' := wrB) (fun x q _ _ => v2.1 x q)
        have L := lrv_e (P := s_X8_takeByte G 59) a3 tk
        have I2 : RI (rh h1 (X + 1) wrB) (X + 1) := a3.cg rfl rfl
        have e92 : m_i (rh h1 (X + 1) wrB) (X + 1) 9 = flt N T k1 (nI 0) := by
          show (rs_of (rh h1 (X + 1) wrB) (X + 1)).1 0 9 = _
          rw [d2]; exact v4.2.2.2.2
        generalize rh h1 (X + 1) wrB = h2 at d1 d2 L I2 e92
        exact ⟨h2, w2, c + 1, fun K => by rw [cl, if_neg ne7, L, u_ob, sF K h2 I2 (by rw [e92]; exact hne)], fun K => by rw [rf, g1, u_cw, rs], I2, by rw [g3]; exact e92, by rw [g3]; exact flt_FO hN (by decide), a4.tr d1, a6.l.tr g2.l, fun q => absurd (g3.symm.trans q) hne⟩
end
