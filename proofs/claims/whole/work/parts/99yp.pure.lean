/-! PURE 99yp: a rule's clause, on both sides. -/
/-- frames of a clause in the reference -/
def FrK (r c E : Nat) (w w' : MS) : Prop := (∀ x, x ≠ 0 → x ≠ 43 → x ≠ 44 → x ≠ 46 → x ≠ 47 → x ≠ 48 → x ≠ 49 → w'.1 x = w.1 x) ∧ (∀ j, j ≠ 33 → j ≠ 34 → j ≠ 37 → j ≠ 38 → j ≠ 39 → j ≠ 40 → w'.1 0 j = w.1 0 j) ∧ (∀ j, j < 300 * r + E ∨ 300 * r + 300 ≤ j → w'.1 43 j = w.1 43 j ∧ w'.1 44 j = w.1 44 j) ∧ ∀ j, j ≠ 12 * r + c → w'.1 46 j = w.1 46 j ∧ w'.1 47 j = w.1 47 j ∧ w'.1 48 j = w.1 48 j
section
variable {G : GG} {X N k r c E C nt x : Nat} {T : Nat → Nat} {h h' : AH} {w w' w1 wr wr' : MS} {f : Int32} {wl : List (List Nat)}
theorem FrK.ofW (a : FrW w w') : FrK r c E w w' := ⟨fun x q _ _ _ _ _ _ => a.1 x q, fun j q1 q2 _ _ _ _ => a.2 j q1 q2, fun j _ => by rw [a.1 43 (by decide), a.1 44 (by decide)]; exact ⟨rfl, rfl⟩, fun j _ => by rw [a.1 46 (by decide), a.1 47 (by decide), a.1 48 (by decide)]; exact ⟨rfl, rfl, rfl⟩⟩
theorem FrK.ofT (a : FrT r c E wr w wr' w') : FrK r c E w w' := by
  have a5 := a.2.2.2.2.1
  exact ⟨fun x q1 q2 q3 _ _ _ q7 => a5 x q1 q2 q3 q7, a.2.2.2.2.2.1, a.2.2.2.2.2.2, fun j _ => by rw [a5 46 (by decide) (by decide) (by decide) (by decide), a5 47 (by decide) (by decide) (by decide) (by decide), a5 48 (by decide) (by decide) (by decide) (by decide)]; exact ⟨rfl, rfl, rfl⟩⟩
theorem FrK.tr {E1 : Nat} (a : FrK r c E w w1) (b : FrK r c E1 w1 w') (hE : E ≤ E1) : FrK r c E w w' :=
  ⟨fun x q1 q2 q3 q4 q5 q6 q7 => (b.1 x q1 q2 q3 q4 q5 q6 q7).trans (a.1 x q1 q2 q3 q4 q5 q6 q7), fun j q1 q2 q3 q4 q5 q6 => (b.2.1 j q1 q2 q3 q4 q5 q6).trans (a.2.1 j q1 q2 q3 q4 q5 q6), fun j hj => ⟨(b.2.2.1 j (by omega)).1.trans (a.2.2.1 j hj).1, (b.2.2.1 j (by omega)).2.trans (a.2.2.1 j hj).2⟩, fun j hj => ⟨(b.2.2.2 j hj).1.trans (a.2.2.2 j hj).1, (b.2.2.2 j hj).2.1.trans (a.2.2.2 j hj).2.1, (b.2.2.2 j hj).2.2.trans (a.2.2.2 j hj).2.2⟩⟩
theorem FrK.s {y : Nat} {v : Int32} (hy : y = 46 ∨ y = 47 ∨ y = 48) : FrK r c E w (w_si w y (12 * r + c) v) := by
  refine ⟨fun x q1 q2 q3 q4 q5 q6 q7 => w_si_r (by omega), fun j _ _ _ _ _ _ => by rw [w_si_r (by omega)], fun j _ => by rw [w_si_r (by omega), w_si_r (by omega)]; exact ⟨rfl, rfl⟩, fun j hj => ⟨?_, ?_, ?_⟩⟩
  · rw [w_si_e, if_neg (fun q => hj q.2)]
  · rw [w_si_e, if_neg (fun q => hj q.2)]
  · rw [w_si_e, if_neg (fun q => hj q.2)]
theorem Gd.cw (h : Gd r c wr w E C) (e37 : w'.1 0 37 = w.1 0 37) (e39 : w'.1 0 39 = w.1 0 39) : Gd r c wr w' E C := ⟨by rw [e37]; exact h.1, by rw [e39]; exact h.2.1, h.2.2⟩
theorem ent_r {y : Nat} {v : Int32} {j : Nat} (h1 : y ≠ 43) (h2 : y ≠ 44) : ent (w_si w y j v).1 r = ent w.1 r := by
  funext i; unfold ent; rw [w_si_r (Ne.symm h1), w_si_r (Ne.symm h2)]
theorem WrE.cw {E' : Nat} (h : WrE r c wr w E E') (e : ent w'.1 r = ent w.1 r) : WrE r c wr w' E E' := by unfold WrE at h ⊢; rw [e]; exact h
theorem sumC_F (hs : Syn wl N T wr w k f) (hf : f ≠ 0) : s_X3_readSum G wr = some (w_si wr 6 3 ((wr.1 6 3) + 1)) := by
  rw [sum_eC, rv_F hs hf, u_ob, bN_i (i := 0) (by decide), c8_F (by rw [w_si_r (by decide), hs.2.2.1.2.2.2.2]; exact hf)]
  rfl
/-- a clause's last word -/
theorem fin_w (hI : RI h (X + 1)) (hs : Syn wlR N T (rs_of h (X + 1)) w k 0) (hg : Gd r c (rs_of h (X + 1)) w E C) (hW : E + c < 400) (y : Int32) : ∃ h', lrv 6 (X + 7) (s_X3_write G y) h = some h' ∧ RI h' (X + 1) ∧ Fr (RW X) h h' ∧ Syn wlR N T (rs_of h' (X + 1)) w k 0 ∧ Gd r (c + 1) (rs_of h' (X + 1)) w E C ∧ (rs_of h' (X + 1)).1 7 (E + c) = y ∧ ∀ j, j < E + c → (rs_of h' (X + 1)).1 7 j = (rs_of h (X + 1)).1 7 j := by
  obtain ⟨g1, g2, g3, g4, g5⟩ := hg
  have a1 := w_write (G := G) g4 hW y
  obtain ⟨e1, e2⟩ := rhR (h := h) (X := X) (wr' := w_si (w_si (rs_of h (X + 1)) 7 (E + c) y) 6 2 (nI (E + c + 1))) (fun x _ q2 q3 => by rw [w_si_r q2, w_si_r q3])
  refine ⟨_, lrv_6 hI a1, hI.cg rfl rfl, e1, (hs.c6 (fun r hr => by rw [w_si_r (by omega), w_si_r (by omega)])).e e2, Gd.e ⟨g1, g2, ?_, ?_, g5⟩ e2, ?_, fun j hj => ?_⟩
  · rw [w_si_j (by decide), w_si_r (by decide)]; exact g3
  · rw [w_si_s, show E + c + 1 = E + (c + 1) by omega]
  · rw [e2, w_si_r (by decide), w_si_s]
  · rw [e2, w_si_r (by decide), w_si_j (by omega)]
theorem fin_F (hI : RI h (X + 1)) (hs : Syn wlR N T (rs_of h (X + 1)) w k f) (hb : ∃ W, (rs_of h (X + 1)).1 6 2 = nI W ∧ W ≤ 400 ∧ E + c ≤ W) (y : Int32) : ∃ h', lrv 6 (X + 7) (s_X3_write G y) h = some h' ∧ RI h' (X + 1) ∧ Fr (RW X) h h' ∧ Syn wlR N T (rs_of h' (X + 1)) w k f := by
  obtain ⟨wr', a1, a2, a3, -⟩ := any_F (G := G) (r := 0) hs hb y
  obtain ⟨e1, e2⟩ := rhR (h := h) (X := X) (wr' := wr') a3.1
  exact ⟨_, lrv_6 hI a1, hI.cg rfl rfl, e1, a2.e e2⟩
theorem Fr.rw3 {h1 h2 : AH} (a : Fr (RW X) h h1) (b : Fr (RW X) h1 h2) : Fr (RW X) h h2 := a.tr b
/-- what comes of a clause -/
def RcE (G : GG) (N : Nat) (T : Nat → Nat) (X r c : Nat) (h : AH) (w : MS) (k E : Nat) : Prop := ∃ h' w' k' f', (∀ K self, F_X3_readLaw_23 G (X + 7) K self 1 (nI c) h = if m_i h' (X + 1) 7 = 257 then self 0 (nI (c + 1)) h' else ob (lrv 0 (X + 1) (s_X8_takeByte G 59) h') fun h2 => self 1 (nI (c + 1)) h2) ∧ p_X12_ruleClause G (nI c) w = some w' ∧ RI h' (X + 1) ∧ Fr (RW X) h h' ∧ Syn wlR N T (rs_of h' (X + 1)) w' k' f' ∧ FrK r c E w w' ∧ (f' = 0 → c < 12 ∧ ∃ Tm E' C' nt', Gd r (c + 1) (rs_of h' (X + 1)) w' E' C' ∧ E ≤ Tm ∧ Tm ≤ E' ∧ E' + 2 * (60 - C') ≤ 120 + nt' ∧ 3 * nt' ≤ tp N T k' ∧ w'.1 0 38 = 0 ∧ (w'.1 46 (12 * r + c) = nI E ∧ w'.1 47 (12 * r + c) = nI Tm ∧ w'.1 48 (12 * r + c) = nI E') ∧ tyR [] (seg (ent w'.1 r) (Tm - E) E) = some [false] ∧ (Tm = E' ∨ tyR [] (seg (ent w'.1 r) (E' - Tm) Tm) = some [true]) ∧ WrE r c (rs_of h' (X + 1)) w' E E' ∧ (rs_of h' (X + 1)).1 7 (E' + c) = (if Tm = E' then -313 else -314) ∧ ∀ j, j < E + c → (rs_of h' (X + 1)).1 7 j = (rs_of h (X + 1)).1 7 j)
theorem clR (hG : GI G) (hI : RI h (X + 1)) (hs : Syn wlR N T (rs_of h (X + 1)) w k 0) (hg : Gd r c (rs_of h (X + 1)) w E C) (h41 : w.1 0 41 = 13) (h35 : w.1 0 35 = nI r) (h38 : w.1 0 38 = 0) (hr6 : r < 6) (hc : c ≤ 12) (hB : E + 2 * (60 - C) ≤ 120 + nt) (hnt : 3 * nt ≤ tp N T k) : RcE G N T X r c h w k E := by
  have hN := hs.2.2.2.1.1
  have n133 := nt_le hnt hN
  have e9 : m_i h (X + 1) 9 = 0 := hs.2.2.1.2.2.2.2
  rcases pul_both (G := G) hG hs hc with ⟨wrA, wA, hc12, a1, a2, hk, a3, a4, a5⟩ | ⟨wrF, wF, f, hf, a1, a2, a3, a4, a5⟩
  rotate_left
  · -- no 'pull'
    obtain ⟨e1, e2⟩ := rhR (h := h) (X := X) (wr' := wrF) (fun x q _ _ => a2.1 x q)
    have L1 := lrv_6 (P := s_X3_takePull G (nI c)) hI a1
    have I1 : RI (rh h (X + 1) wrF) (X + 1) := hI.cg rfl rfl
    have s1 := a3.e e2
    have b1 : (rs_of (rh h (X + 1) wrF) (X + 1)).1 6 2 = nI (E + c) := by rw [e2, a2.1 6 (by decide)]; exact hg.2.2.2.1
    generalize rh h (X + 1) wrF = h1 at e1 L1 I1 s1 b1
    have c1 := sumC_F (G := G) s1 hf
    obtain ⟨f1, f2⟩ := rhR (h := h1) (X := X) (wr' := w_si (rs_of h1 (X + 1)) 6 3 (((rs_of h1 (X + 1)).1 6 3) + 1)) (fun x _ q _ => w_si_r q)
    have L2 := lrv_6 (P := s_X3_readSum G) I1 c1
    have s2 : Syn wlR N T (rs_of (rh h1 (X + 1) (w_si (rs_of h1 (X + 1)) 6 3 (((rs_of h1 (X + 1)).1 6 3) + 1))) (X + 1)) wF k f := (s1.c6 (fun r hr => w_si_r (by omega))).e f2
    have b2 : (rs_of (rh h1 (X + 1) (w_si (rs_of h1 (X + 1)) 6 3 (((rs_of h1 (X + 1)).1 6 3) + 1))) (X + 1)).1 6 2 = nI (E + c) := by rw [f2, w_si_j (by decide)]; exact b1
    have I2 : RI (rh h1 (X + 1) (w_si (rs_of h1 (X + 1)) 6 3 (((rs_of h1 (X + 1)).1 6 3) + 1))) (X + 1) := I1.cg rfl rfl
    generalize rh h1 (X + 1) (w_si (rs_of h1 (X + 1)) 6 3 (((rs_of h1 (X + 1)).1 6 3) + 1)) = h2 at f1 L2 s2 b2 I2
    obtain ⟨h3, g1, g2, g3, g4⟩ := fin_F (G := G) (E := E) (c := c) I2 s2 ⟨E + c, b2, by omega, Nat.le_refl _⟩ (-313)
    exact ⟨h3, wF, k, f, fun K self => FL_no hI e9 hc L1 I1 L2 I2 (fun q => hf (s2.2.2.1.2.2.2.2.symm.trans q.1)) g1 g2, a5, g2, (e1.tr f1).tr g3, g4, FrK.ofW a4, fun q => absurd q hf⟩
  · obtain ⟨e1, e2⟩ := rhR (h := h) (X := X) (wr' := wrA) (fun x q _ _ => a2.1 x q)
    have L1 := lrv_6 (P := s_X3_takePull G (nI c)) hI a1
    have I1 : RI (rh h (X + 1) wrA) (X + 1) := hI.cg rfl rfl
    have s1 := a3.e e2
    have g1 : Gd r c (rs_of (rh h (X + 1) wrA) (X + 1)) wA E C := (hg.of a2 a4).e e2
    have r7 : (rs_of (rh h (X + 1) wrA) (X + 1)).1 7 = (rs_of h (X + 1)).1 7 := by rw [e2, a2.1 7 (by decide)]
    generalize rh h (X + 1) wrA = h1 at e1 L1 I1 s1 g1 r7
    have A35 : wA.1 0 35 = nI r := by rw [a4.2 35 (by decide) (by decide)]; exact h35
    have A37 : wA.1 0 37 = nI E := g1.1
    have A38 : wA.1 0 38 = 0 := by rw [a4.2 38 (by decide) (by decide)]; exact h38
    have A41 : wA.1 0 41 = 13 := by rw [a4.2 41 (by decide) (by decide)]; exact h41
    rw [rc2_eq A35 hr6 hc12, A37] at a5
    have k16 : FrK r c E wA (w_si wA 46 (12 * r + c) (nI E)) := FrK.s (Or.inl rfl)
    have s16 : Syn wlR N T (rs_of h1 (X + 1)) (w_si wA 46 (12 * r + c) (nI E)) (k + 1) 0 := s1.cw (fun j _ => by rw [w_si_r (by decide)]) (w_si_r (by decide))
    have g16 : Gd r c (rs_of h1 (X + 1)) (w_si wA 46 (12 * r + c) (nI E)) E C := g1.cw (by rw [w_si_r (by decide)]) (by rw [w_si_r (by decide)])
    have e46 : (w_si wA 46 (12 * r + c) (nI E)).1 46 (12 * r + c) = nI E := w_si_s _ _ _ _
    have d0 : ∀ j, (w_si wA 46 (12 * r + c) (nI E)).1 0 j = wA.1 0 j := fun j => by rw [w_si_r (by decide)]
    generalize w_si wA 46 (12 * r + c) (nI E) = w16 at a5 k16 s16 g16 e46 d0
    obtain ⟨wr2, w17, k2, f2, b1, b2, b3, b4, b5, b6⟩ := sum_both (G := G) (M := 120 + nt) hG s16 g16 (by rw [d0]; exact A41) (by rw [d0]; exact A35) hr6 (by omega) (by omega) (by omega)
    have h37 := fun q => (b6 q)
    rw [b2, u_ob] at a5
    obtain ⟨q1, q2⟩ := rhR (h := h1) (X := X) (wr' := wr2) b4.1
    have L2 := lrv_6 (P := s_X3_readSum G) I1 b1
    have I2 : RI (rh h1 (X + 1) wr2) (X + 1) := I1.cg rfl rfl
    have s2 := b3.e q2
    have W2 : ∃ W, (rs_of (rh h1 (X + 1) wr2) (X + 1)).1 6 2 = nI W ∧ W ≤ 400 ∧ E + c ≤ W := by rw [q2]; exact b5
    have t2 : FrT r c E (rs_of h1 (X + 1)) w16 (rs_of (rh h1 (X + 1) wr2) (X + 1)) w17 := b4.t.e q2
    have gd2 : f2 = 0 → ∃ E1 C1, w17.1 0 33 = nI (tp N T k2) ∧ k + 1 ≤ k2 ∧ Gd r c (rs_of (rh h1 (X + 1) wr2) (X + 1)) w17 E1 C1 ∧ E ≤ E1 ∧ C ≤ C1 ∧ E1 + 2 * (60 - C1) ≤ 120 + nt ∧ WrE r c (rs_of (rh h1 (X + 1) wr2) (X + 1)) w17 E E1 ∧ tyR [] (seg (ent w17.1 r) (E1 - E) E) = some [false] := fun z => by
      obtain ⟨E1, C1, y1, y2, y3, y4, y5, y6, y7, y8⟩ := b6 z
      exact ⟨E1, C1, y1, y2, y3.e q2, y4, y5, y6, y7.e q2, y8 [] (Nat.zero_le _)⟩
    generalize rh h1 (X + 1) wr2 = h2 at q1 q2 L2 I2 s2 W2 t2 gd2
    have fr17 : FrK r c E w w17 := ((FrK.ofW a4).tr k16 (Nat.le_refl _)).tr (FrK.ofT t2) (Nat.le_refl _)
    have k20 : FrK r c E w17 (w_si w17 47 (12 * r + c) (w17.1 0 37)) := FrK.s (Or.inr (Or.inl rfl))
    have s20 : Syn wlR N T (rs_of h2 (X + 1)) (w_si w17 47 (12 * r + c) (w17.1 0 37)) k2 f2 := s2.cw (fun j _ => by rw [w_si_r (by decide)]) (w_si_r (by decide))
    have d20 : ∀ j, (w_si w17 47 (12 * r + c) (w17.1 0 37)).1 0 j = w17.1 0 j := fun j => by rw [w_si_r (by decide)]
    have e47 : (w_si w17 47 (12 * r + c) (w17.1 0 37)).1 47 (12 * r + c) = w17.1 0 37 := w_si_s _ _ _ _
    have e46' : (w_si w17 47 (12 * r + c) (w17.1 0 37)).1 46 (12 * r + c) = nI E := by rw [w_si_r (by decide), t2.2.2.2.2.1 46 (by decide) (by decide) (by decide) (by decide)]; exact e46
    have n20 : ent (w_si w17 47 (12 * r + c) (w17.1 0 37)).1 r = ent w17.1 r := ent_r (by decide) (by decide)
    generalize w_si w17 47 (12 * r + c) (w17.1 0 37) = w20 at a5 k20 s20 d20 e47 e46' n20
    have fr20' : FrK r c E w w20 := fr17.tr k20 (Nat.le_refl _)
    have z34 : w20.1 0 34 = f2 := s20.2.2.2.2.1
    by_cases z : f2 = 0
    rotate_left
    · -- a fault in the sum
      unfold rc3 at a5
      rw [if_neg (by rw [z34]; exact z)] at a5
      obtain ⟨h3, g1', g2', g3', g4'⟩ := fin_F (G := G) (E := E) (c := c) I2 s20 W2 (-313)
      exact ⟨h3, _, k2, f2, fun K self => FL_no hI e9 hc L1 I1 L2 I2 (fun q => z (s2.2.2.1.2.2.2.2.symm.trans q.1)) g1' g2', a5, g2', (e1.tr q1).tr g3', g4'.cw (fun j _ => by rw [w_si_r (by decide)]) (w_si_r (by decide)), fr20'.tr (FrK.s (Or.inr (Or.inr rfl))) (Nat.le_refl _), fun q => absurd q z⟩
    subst z
    obtain ⟨E1, C1, y1, y2, y3, y4, y5, y6, y7, y8⟩ := gd2 rfl
    have tk := p_takes' (G := G) hG (ws_R (j := 14) (by decide)) s20.2.2.2.1 s20.2.2.2.2
    have e7 : m_i h2 (X + 1) 7 = syv wlR N T (tp N T k2) := s2.2.2.1.2.2.1
    have w14 := sy_wd (N := N) (T := T) (p := tp N T k2) (k := k2) (w := w17) (j := 14) (by decide) b3.2.2.2.1
    have m37 : w17.1 0 37 = nI E1 := y3.1
    have tle := tp_le (N := N) (T := T) k2
    have nE : E1 + c < 400 := by omega
    have tmk := tp_mono (N := N) (T := T) (show k ≤ k2 by omega)
    unfold rc3 at a5
    rw [if_pos z34, show p_X12_takes G (G.2.2.2.1 21) w20 = _ from tk, u_cw] at a5
    by_cases zi : wd N T (wlR.getD 14 []) (tp N T k2) = true
    rotate_left
    · -- no 'if'
      rw [if_neg zi, if_neg zi, if_pos rfl] at a5
      obtain ⟨h3, g1', g2', g3', g4', g5', g6', g7'⟩ := fin_w (G := G) I2 s2 y3 nE (-313)
      have fW : FrW w20 (w_si (w_si w20 0 33 (nI (tp N T k2))) 0 33 (nI (tp N T k2 + 0))) := (FrW.s (Or.inl rfl)).tr (FrW.s (Or.inl rfl))
      have p33 : (w_si (w_si w20 0 33 (nI (tp N T k2))) 0 33 (nI (tp N T k2 + 0))).1 0 33 = nI (tp N T k2) := w_si_s _ _ _ _
      have p34 : (w_si (w_si w20 0 33 (nI (tp N T k2))) 0 33 (nI (tp N T k2 + 0))).1 0 34 = 0 := by rw [w_si_j (by decide), w_si_j (by decide)]; exact z34
      generalize w_si (w_si w20 0 33 (nI (tp N T k2))) 0 33 (nI (tp N T k2 + 0)) = w24 at a5 fW p33 p34
      have v37 : w24.1 0 37 = nI E1 := by rw [fW.2 37 (by decide) (by decide), d20]; exact m37
      rw [v37] at a5
      have x0 : ∀ j, (w_si w24 48 (12 * r + c) (nI E1)).1 0 j = w24.1 0 j := fun j => by rw [w_si_r (by decide)]
      have xn : ent (w_si w24 48 (12 * r + c) (nI E1)).1 r = ent w17.1 r := by
        rw [ent_r (by decide) (by decide)]
        funext i
        unfold ent
        rw [fW.1 43 (by decide), fW.1 44 (by decide)]
        exact congrFun n20 i
      refine ⟨h3, _, k2, 0, fun K self => FL_no hI e9 hc L1 I1 L2 I2 (fun q => zi (w14.mp (e7.symm.trans q.2))) g1' g2', a5, g2', (e1.tr q1).tr g3', ?_, (fr20'.tr (FrK.ofW fW) (Nat.le_refl _)).tr (FrK.s (Or.inr (Or.inr rfl))) (Nat.le_refl _), fun _ => ⟨hc12, E1, E1, C1, nt, ?_, y4, Nat.le_refl _, y6, by omega, ?_, ⟨?_, ?_, w_si_s _ _ _ _⟩, ?_, Or.inl rfl, ?_, ?_, fun j hj => ?_⟩⟩
      · obtain ⟨u1, u2, u3, u4, u5⟩ := g4'
        exact ⟨u1, u2, u3, u4.cg (by rw [x0, fW.2 32 (by decide) (by decide), d20]) (by rw [w_si_r (by decide), fW.1 42 (by decide), k20.1 42 (by decide) (by decide) (by decide) (by decide) (by decide) (by decide) (by decide)]), by rw [x0]; exact p34, tp N T k2, by rw [x0]; exact p33, ⟨by omega, FO_0⟩, fun _ => ⟨Nat.le_refl _, fun j q1 q2 => by omega⟩⟩
      · exact g5'.cw (by rw [x0, fW.2 37 (by decide) (by decide), d20]) (by rw [x0, fW.2 39 (by decide) (by decide), d20])
      · rw [x0, fW.2 38 (by decide) (by decide), d20, b4.2.2.2.2.2.1 38 (by decide) (by decide) (by decide) (by decide), d0]; exact A38
      · rw [w_si_r (by decide), fW.1 46 (by decide)]; exact e46'
      · rw [w_si_r (by decide), fW.1 47 (by decide), e47]; exact m37
      · rw [xn]; exact y8
      · intro q u1 u2
        rw [xn, g7' (q + c) (by omega)]; exact y7 q u1 u2
      · rw [if_pos rfl]; exact g6'
      · rw [g7' j (by omega), t2.2.2.2.1 j hj, r7]
    · -- 'if'
      have z7 : m_i h2 (X + 1) 7 = 314 := e7.trans (w14.mpr zi)
      rw [if_pos zi, if_pos zi, if_neg n10] at a5
      obtain ⟨l1, l2, l3⟩ := wd_L zi (wlR_pos 14 (by decide))
      have hln : ln N T (tp N T k2) = (wlR.getD 14 []).length := by unfold ln; rw [if_neg (L_D l2), if_pos l2, l3]
      have hk2 : k2 < tK N T := (tp_K s2.2.2.1.1).mp l1
      have fW : FrW w20 (w_si (w_si w20 0 33 (nI (tp N T k2))) 0 33 (nI (tp N T k2 + (wlR.getD 14 []).length))) := (FrW.s (Or.inl rfl)).tr (FrW.s (Or.inl rfl))
      have p33 : (w_si (w_si w20 0 33 (nI (tp N T k2))) 0 33 (nI (tp N T k2 + (wlR.getD 14 []).length))).1 0 33 = nI (tp N T k2 + (wlR.getD 14 []).length) := w_si_s _ _ _ _
      have p34 : (w_si (w_si w20 0 33 (nI (tp N T k2))) 0 33 (nI (tp N T k2 + (wlR.getD 14 []).length))).1 0 34 = 0 := by rw [w_si_j (by decide), w_si_j (by decide)]; exact z34
      generalize w_si (w_si w20 0 33 (nI (tp N T k2))) 0 33 (nI (tp N T k2 + (wlR.getD 14 []).length)) = w24 at a5 fW p33 p34
      obtain ⟨wrB, v1, v2, v3⟩ := word_adv (G := G) s20 hk2 hln (w1 := w_si w24 0 40 0) (by rw [w_si_j (by decide), fW.2 32 (by decide) (by decide)]) (by rw [w_si_r (by decide), fW.1 42 (by decide)]) (by rw [w_si_j (by decide)]; exact p34) (by rw [w_si_j (by decide)]; exact p33)
      obtain ⟨u1, u2⟩ := rhR (h := h2) (X := X) (wr' := wrB) (fun x q _ _ => v2.1 x q)
      have L3 := lrv_e (P := s_X8_advance G) I2 v1
      have I3 : RI (rh h2 (X + 1) wrB) (X + 1) := I2.cg rfl rfl
      have s3 := v3.e u2
      have x0 : ∀ j, j ≠ 33 → j ≠ 34 → j ≠ 40 → (w_si w24 0 40 0).1 0 j = w17.1 0 j := fun j q1 q2 q3 => by rw [w_si_j q3, fW.2 j q1 q2, d20]
      have xr : ∀ q, q ≠ 0 → (w_si w24 0 40 0).1 q = w20.1 q := fun q hq => by rw [w_si_r hq, fW.1 q hq]
      have g3 : Gd r c (rs_of (rh h2 (X + 1) wrB) (X + 1)) (w_si w24 0 40 0) E1 C1 := by
        refine Gd.e (wr := wrB) ⟨by rw [x0 37 (by decide) (by decide) (by decide)]; exact y3.1, by rw [x0 39 (by decide) (by decide) (by decide)]; exact y3.2.1, by rw [v2.1 6 (by decide)]; exact y3.2.2.1, by rw [v2.1 6 (by decide)]; exact y3.2.2.2.1, y3.2.2.2.2⟩ u2
      have r73 : (rs_of (rh h2 (X + 1) wrB) (X + 1)).1 7 = (rs_of h2 (X + 1)).1 7 := by rw [u2, v2.1 7 (by decide)]
      generalize rh h2 (X + 1) wrB = h3 at u1 u2 L3 I3 s3 g3 r73
      have k40 : FrK r c E w20 (w_si w24 0 40 0) := (FrK.ofW fW).tr ⟨fun x q _ _ _ _ _ _ => w_si_r q, fun j _ _ _ _ _ q => w_si_j q, fun j _ => by rw [w_si_r (by decide), w_si_r (by decide)]; exact ⟨rfl, rfl⟩, fun j _ => by rw [w_si_r (by decide), w_si_r (by decide), w_si_r (by decide)]; exact ⟨rfl, rfl, rfl⟩⟩ (Nat.le_refl _)
      have os3 : OS (w_si w24 0 40 0) [] := ⟨w_si_s _ _ _ _, trivial, by decide⟩
      have x38 : (w_si w24 0 40 0).1 0 38 = nI 0 := by rw [x0 38 (by decide) (by decide) (by decide), b4.2.2.2.2.2.1 38 (by decide) (by decide) (by decide) (by decide), d0]; exact A38
      have x41 : (w_si w24 0 40 0).1 0 41 = 13 := by rw [x0 41 (by decide) (by decide) (by decide), b4.2.2.2.2.2.1 41 (by decide) (by decide) (by decide) (by decide), d0]; exact A41
      have x35 : (w_si w24 0 40 0).1 0 35 = nI r := by rw [x0 35 (by decide) (by decide) (by decide), b4.2.2.2.2.2.1 35 (by decide) (by decide) (by decide) (by decide), d0]; exact A35
      have tst : p_X12_test G w24 = lw2 (P_X12_test_9 G) bN 1 1 (w_si w24 0 40 0) := rfl
      rw [tst] at a5
      have n3 : ent (w_si w24 0 40 0).1 r = ent w17.1 r := by
        rw [← n20]; funext i; unfold ent; rw [xr 43 (by decide), xr 44 (by decide)]
      have m46 : (w_si w24 0 40 0).1 46 (12 * r + c) = nI E := by rw [xr 46 (by decide)]; exact e46'
      have m47 : (w_si w24 0 40 0).1 47 (12 * r + c) = nI E1 := by rw [xr 47 (by decide), e47]; exact m37
      generalize w_si w24 0 40 0 = w25 at a5 s3 x0 xr g3 k40 os3 x38 x41 x35 n3 m46 m47
      have tmk2 := tp_mono (N := N) (T := T) (show k2 ≤ k2 + 1 by omega)
      have pd0 : pdg [] = 0 := rfl
      have ti : TI N T r c 0 [] (rs_of h3 (X + 1)) w25 (k2 + 1) E1 C1 nt 1 := ⟨s3, g3, ⟨x41, x35, hr6, by omega⟩, x38, os3, Nat.zero_le _, by rw [pd0]; omega, by omega⟩
      obtain ⟨wr4, w4, k4, f4, t1, t2', t3, t4, t5⟩ := test_both (G := G) (rf := s_X3_readFact G 12) hG (st := []) ⟨by decide, by decide, by decide⟩ (fact_both hG 12 0 rfl (by decide)) ti
      obtain ⟨o1, o2⟩ := rhR (h := h3) (X := X) (wr' := wr4) t2'.1
      have L4 : lrv 6 (X + 7) (s_X3_readTest G (s_X3_readFact G 12) 0) h3 = some (rh h3 (X + 1) wr4) := lrv_6 I3 t1
      have I4 : RI (rh h3 (X + 1) wr4) (X + 1) := I3.cg rfl rfl
      have fT := t2'.e o2
      have hb := bN_gt (d := 100000) (by decide)
      have hK4 := tK_le N T
      by_cases z4 : f4 = 0
      rotate_left
      · obtain ⟨s4, j, j1, j2⟩ := t4 z4
        have s4' := s4.e o2
        have W4 : ∃ W, (rs_of (rh h3 (X + 1) wr4) (X + 1)).1 6 2 = nI W ∧ W ≤ 400 ∧ E1 + c ≤ W := by rw [o2]; exact t3
        obtain ⟨h5, g1', g2', g3', g4'⟩ := fin_F (G := G) (E := E1) (c := c) I4 s4' W4 (-314)
        have j3 := j2 (bN - 1 - j)
        rw [show bN - 1 - j + 1 + j = bN by omega] at j3
        rw [j3, u_ob] at a5
        exact ⟨h5, _, k4, f4, fun K self => FL_if hI e9 hc L1 I1 L2 I2 s2.2.2.1.2.2.2.2 z7 L3 I3 L4 I4 g1' g2', a5, g2', (((e1.tr q1).tr u1).tr o1).tr g3', g4'.cw (fun j _ => by rw [w_si_r (by decide)]) (w_si_r (by decide)), ((fr20'.tr k40 (Nat.le_refl _)).tr (FrK.ofT t2') y4).tr (FrK.s (Or.inr (Or.inr rfl))) (Nat.le_refl _), fun q => absurd q z4⟩
      · obtain ⟨wy, j, E2, C2, nt2, j1, j2, ⟨zz0, w5, w7, w15, zz1, zz2, zz3, zz4, zz5, zz6⟩, j4, j5, j6, j7, j8, j9, j10⟩ := t5 z4
        obtain ⟨i1, i2, ⟨i3, i4, i5, i6⟩, i7, i8, i9, i10, i11⟩ := j5
        have out := ts_out (G := G) (m := bN - 2 - j) zz0 zz1 zz2 zz3 zz4 zz5 zz6 (p_top' i8) (by decide)
        have hk4 := i1.2.2.1.1
        have j3 := j2 (bN - 2 - j + 1 + 1)
        rw [show bN - 2 - j + 1 + 1 + j = bN by omega, out] at j3
        rw [j3, u_ob, i2.1] at a5
        rw [pd0] at i10
        have n133' := nt_le i11 hN
        have s4' := i1.e o2
        have g4 := i2.e o2
        have wr4' := j9.e o2
        generalize rh h3 (X + 1) wr4 = h4 at o1 o2 L4 I4 fT s4' g4 wr4'
        obtain ⟨h5, g1', g2', g3', g4', g5', g6', g7'⟩ := fin_w (G := G) I4 s4' g4 (by omega) (-314)
        have xn : ent (w_si w4 48 (12 * r + c) (nI E2)).1 r = ent w4.1 r := ent_r (by decide) (by decide)
        have ty2 := j10 [] (Nat.zero_le _)
        have ne : ¬ E1 = E2 := fun q => by
          rw [q, Nat.sub_self] at ty2
          exact absurd ty2 (by intro u; cases u)
        have eL : ∀ i, i < E1 → ent w4.1 r i = ent w17.1 r i := fun i hi => by rw [t2'.en hr6 hi, n3]
        refine ⟨h5, _, k4, 0, fun K self => FL_if hI e9 hc L1 I1 L2 I2 s2.2.2.1.2.2.2.2 z7 L3 I3 L4 I4 g1' g2', a5, g2', (((e1.tr q1).tr u1).tr o1).tr g3', g4'.cw (fun j _ => by rw [w_si_r (by decide)]) (w_si_r (by decide)), ((fr20'.tr k40 (Nat.le_refl _)).tr (FrK.ofT t2') y4).tr (FrK.s (Or.inr (Or.inr rfl))) (Nat.le_refl _), fun _ => ⟨hc12, E1, E2, C2, nt2, g5'.cw (by rw [w_si_r (by decide)]) (by rw [w_si_r (by decide)]), y4, j7, by omega, i11, by rw [w_si_r (by decide)]; exact i7, ⟨?_, ?_, w_si_s _ _ _ _⟩, ?_, Or.inr (by rw [xn]; exact ty2), fun q u1 u2 => ?_, ?_, fun j hj => ?_⟩⟩
        · rw [w_si_r (by decide), t2'.2.2.2.2.1 46 (by decide) (by decide) (by decide) (by decide)]; exact m46
        · rw [w_si_r (by decide), t2'.2.2.2.2.1 47 (by decide) (by decide) (by decide) (by decide)]; exact m47
        · rw [xn, seg_cg (es := ent w17.1 r) (fun i q1 q2 => eL i (by omega))]; exact y8
        · rw [xn, g7' (q + c) (by omega)]
          by_cases y : q < E1
          · rw [eL q y, fT.2.2.2.1 (q + c) (by omega), r73]; exact y7 q u1 y
          · exact wr4' q (by omega) u2
        · rw [if_neg ne]; exact g6'
        · rw [g7' j (by omega), fT.2.2.2.1 j (by omega), r73, t2.2.2.2.1 j hj, r7]
end
