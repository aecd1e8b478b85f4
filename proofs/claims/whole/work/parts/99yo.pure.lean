/-! PURE 99yo: a rule's clause: its first word. -/
def RW (X a : Nat) : Prop := a = X + 1 ∨ a = X + 7 ∨ a = X + 8
section
variable {G : GG} {X N k r c E C nt x : Nat} {T : Nat → Nat} {h h' h14 h17 h23 h39 h42 : AH} {w w' w13 wr wr' wr2 : MS} {f : Int32} {wl : List (List Nat)}
theorem Syn.e (hs : Syn wl N T wr w k f) (e : wr'.1 = wr.1) : Syn wl N T wr' w k f := hs.cg (fun r _ => by rw [e])
theorem Gd.e (h : Gd r c wr w E C) (e : wr'.1 = wr.1) : Gd r c wr' w E C := by unfold Gd at h ⊢; rw [e]; exact h
theorem WrE.e {E' : Nat} (h : WrE r c wr w E E') (e : wr'.1 = wr.1) : WrE r c wr' w E E' := by unfold WrE at h ⊢; rw [e]; exact h
theorem FrT.e (h : FrT r c E wr w wr' w') (e : wr2.1 = wr'.1) : FrT r c E wr w wr2 w' := by unfold FrT at h ⊢; rw [e]; exact h
theorem rhR (hF : ∀ x, x ≠ 0 → x ≠ 6 → x ≠ 7 → wr'.1 x = (rs_of h (X + 1)).1 x) : Fr (RW X) h (rh h (X + 1) wr') ∧ (rs_of (rh h (X + 1) wr') (X + 1)).1 = wr'.1 := by
  have iin : ∀ o, m_i (rh h (X + 1) wr') (X + 1 + o) = wr'.1 o := fun o => by
    show (if X + 1 ≤ X + 1 + o ∧ X + 1 + o < X + 1 + 8 then wr'.1 (X + 1 + o - (X + 1)) else m_i h (X + 1 + o)) = _
    by_cases z : o < 8
    · rw [if_pos (by omega), Nat.add_sub_cancel_left]
    · rw [if_neg (by omega), hF o (by omega) (by omega) (by omega)]; rfl
  refine ⟨⟨rfl, rfl, rfl, fun a ha => ⟨?_, rfl⟩⟩, funext iin⟩
  unfold RW at ha
  by_cases z : X + 1 ≤ a
  · obtain ⟨o, rfl⟩ : ∃ o, a = X + 1 + o := ⟨a - (X + 1), by omega⟩
    rw [iin o, hF o (by omega) (by omega) (by omega)]; rfl
  · show (if X + 1 ≤ a ∧ a < X + 1 + 8 then wr'.1 (a - (X + 1)) else m_i h a) = _
    rw [if_neg (by omega)]
theorem lrv_6 {P : MS → Option MS} (hI : RI h (X + 1)) (hp : P (rs_of h (X + 1)) = some wr') : lrv 6 (X + 7) P h = some (rh h (X + 1) wr') := by
  have e : X + 7 - 6 = X + 1 := by omega
  unfold lrv
  rw [e]
  refine Eq.trans (@if_pos (6 ≤ X + 7 ∧ RI h (X + 1)) (Classical.propDecidable _) ⟨by omega, hI⟩ _ _ _) ?_
  rw [hp, u_ob]
theorem rd7 (hI : RI h (X + 1)) : m_t h (X + 7) = .inl 3 ∧ m_r h (X + 7) 0 = some (X + 1) ∧ m_t h (X + 1) = .inl 8 ∧ m_r h (X + 7) 1 = some (X + 8) ∧ m_t h (X + 8) = .inr (.int, 400) := ⟨hI.1 (6, .inl 3) (List.mem_of_getElem? (i := 6) rfl), hI.2 (6, 0, 0) (by simp [rR]), hI.1 (0, .inl 8) rT0, hI.2 (6, 1, 7) (by simp [rR]), hI.1 (7, .inr (.int, 400)) (List.mem_of_getElem? (i := 7) rfl)⟩
/-- the class's loop over clauses -/
theorem FL_no {K : AH → Option (Option Nat × AH)} {self : Int32 → Int32 → AH → Option (Option Nat × AH)} (hI : RI h (X + 1)) (e9 : m_i h (X + 1) 9 = 0) (hc : c ≤ 12) (a1 : lrv 6 (X + 7) (s_X3_takePull G (nI c)) h = some h14) (I14 : RI h14 (X + 1)) (a2 : lrv 6 (X + 7) (s_X3_readSum G) h14 = some h17) (I17 : RI h17 (X + 1)) (no : ¬ (m_i h17 (X + 1) 9 = 0 ∧ m_i h17 (X + 1) 7 = 314)) (a3 : lrv 6 (X + 7) (s_X3_write G (-313)) h17 = some h23) (I23 : RI h23 (X + 1)) : F_X3_readLaw_23 G (X + 7) K self 1 (nI c) h = if m_i h23 (X + 1) 7 = 257 then self 0 (nI (c + 1)) h23 else ob (lrv 0 (X + 1) (s_X8_takeByte G 59) h23) fun h32 => self 1 (nI (c + 1)) h32 := by
  obtain ⟨p1, p2, p3, -, -⟩ := rd7 hI
  obtain ⟨q1, -, -, -, -⟩ := rd7 I14
  obtain ⟨r1, r2, r3, -, -⟩ := rd7 I17
  obtain ⟨s1, s2, s3, -, -⟩ := rd7 I23
  unfold F_X3_readLaw_23
  rw [if_neg (show ¬ (12 : Int32) < nI c from nI_nlt (a := 12) hc (by omega)), if_neg n10, u_ck p1, p2, u_ob, u_ck p3, if_pos e9, a1, u_ob, u_ck q1, a2, u_ob, u_ck r1, r2, u_ob, u_ck r3, u_nn]
  have go : (ck (m_t h17 (X + 7) = .inl 3) <| ob (lrv 6 (X + 7) (s_X3_write G (-313)) h17) fun h23 => ck (m_t h23 (X + 7) = .inl 3) <| ob (m_r h23 (X + 7) 0) fun b26 => ck (m_t h23 b26 = .inl 8) <| nn (fun (s0_132 : Int32) => (nn (fun (h_146 : AH) => (nn (nI c + (1 : Int32)) fun x28 => self s0_132 x28 h_146)) fun j_146 => if s0_132 = 0 then (j_146 h23) else ob (m_r h23 (X + 7) 0) fun b30 => ck (m_t h23 b30 = .inl 8) <| ob (lrv 0 b30 (s_X8_takeByte G (59 : Int32)) h23) fun h32 => j_146 h32)) fun j_132 => if (m_i h23 b26 7) = (257 : Int32) then (j_132 (0 : Int32)) else j_132 (1 : Int32)) = if m_i h23 (X + 1) 7 = 257 then self 0 (nI (c + 1)) h23 else ob (lrv 0 (X + 1) (s_X8_takeByte G 59) h23) fun h32 => self 1 (nI (c + 1)) h32 := by
    rw [u_ck r1, a3, u_ob, u_ck s1, s2, u_ob, u_ck s3]
    simp only [u_nn, u_ob, u_ck s3, if_true, if_neg n10, nI_1]
  by_cases z : m_i h17 (X + 1) 9 = 0
  · have y : ¬ m_i h17 (X + 1) 7 = 314 := fun q => no ⟨z, q⟩
    rw [u_nn, if_pos z, u_ob, u_ck r3, if_neg y]
    simp only [u_nn, if_true]
    simp only [u_nn] at go
    exact go
  · rw [u_nn, if_neg z]
    simp only [u_nn, if_true]
    simp only [u_nn] at go
    exact go
theorem FL_if {K : AH → Option (Option Nat × AH)} {self : Int32 → Int32 → AH → Option (Option Nat × AH)} (hI : RI h (X + 1)) (e9 : m_i h (X + 1) 9 = 0) (hc : c ≤ 12) (a1 : lrv 6 (X + 7) (s_X3_takePull G (nI c)) h = some h14) (I14 : RI h14 (X + 1)) (a2 : lrv 6 (X + 7) (s_X3_readSum G) h14 = some h17) (I17 : RI h17 (X + 1)) (y9 : m_i h17 (X + 1) 9 = 0) (y7 : m_i h17 (X + 1) 7 = 314) (a3 : lrv 0 (X + 1) (s_X8_advance G) h17 = some h39) (I39 : RI h39 (X + 1)) (a4 : lrv 6 (X + 7) (s_X3_readTest G (s_X3_readFact G 12) 0) h39 = some h42) (I42 : RI h42 (X + 1)) (a5 : lrv 6 (X + 7) (s_X3_write G (-314)) h42 = some h23) (I23 : RI h23 (X + 1)) : F_X3_readLaw_23 G (X + 7) K self 1 (nI c) h = if m_i h23 (X + 1) 7 = 257 then self 0 (nI (c + 1)) h23 else ob (lrv 0 (X + 1) (s_X8_takeByte G 59) h23) fun h32 => self 1 (nI (c + 1)) h32 := by
  obtain ⟨p1, p2, p3, -, -⟩ := rd7 hI
  obtain ⟨q1, -, -, -, -⟩ := rd7 I14
  obtain ⟨r1, r2, r3, -, -⟩ := rd7 I17
  obtain ⟨s1, s2, s3, -, -⟩ := rd7 I23
  obtain ⟨t1, -, -, -, -⟩ := rd7 I39
  obtain ⟨u1, -, -, -, -⟩ := rd7 I42
  unfold F_X3_readLaw_23
  rw [if_neg (show ¬ (12 : Int32) < nI c from nI_nlt (a := 12) hc (by omega)), if_neg n10, u_ck p1, p2, u_ob, u_ck p3, if_pos e9, a1, u_ob, u_ck q1, a2, u_ob, u_ck r1, r2, u_ob, u_ck r3, u_nn, u_nn, if_pos y9, u_ob, u_ck r3, if_pos y7]
  dsimp only
  rw [u_nn, if_neg n10, u_ob, u_ck r3, a3, u_ob, u_ck t1, a4, u_ob]
  dsimp only
  rw [u_nn, if_neg n10]
  dsimp only
  rw [u_ck u1, a5, u_ob, u_ck s1, s2, u_ob, u_ck s3]
  simp only [u_nn, u_ob, u_ck s3, if_true, if_neg n10, nI_1]
/-- the reference's clause, behind its first word -/
def rc3 (G : GG) (x : Nat) (w20 : MS) : Option MS := if w20.1 0 34 = 0 then (cw (p_X12_takes G (G.2.2.2.1 21) w20) fun r26 w24 => if r26 = 0 then some (w_si w24 48 x (w24.1 0 37)) else ob (p_X12_test G w24) fun w28 => some (w_si w28 48 x (w28.1 0 37))) else some (w_si w20 48 x (w20.1 0 37))
def rc2 (G : GG) (v1 : Int32) (w13 : MS) : Option MS := nn (((12 : Int32) * (w13.1 0 35)) + v1) fun x14 =>
  ck (ixn 72 x14 = true) <|
  nn (w_si w13 46 x14.toNatClampNeg (w13.1 0 37)) fun w16 =>
  ob (p_X12_sum G w16) fun w17 =>
  ck (ixn 72 x14 = true) <|
  nn (w_si w17 47 x14.toNatClampNeg (w17.1 0 37)) fun w20 =>
  nn (fun (h_104 : MS) => (ck (ixn 72 x14 = true) <|
  nn (w_si h_104 48 x14.toNatClampNeg (h_104.1 0 37)) fun w22 =>
  some w22)) fun j_104 =>
  if (w20.1 0 34) = 0 then (cw (p_X12_takes G ((G.2.2.2.1 21)) w20) fun r26 w24 =>
  if r26 = 0 then (j_104 w24) else
  ob (p_X12_test G w24) fun w28 =>
  j_104 w28) else
  j_104 w20
theorem rc2_eq (h35 : w13.1 0 35 = nI r) (hr6 : r < 6) (hc : c < 12) : rc2 G (nI c) w13 = ob (p_X12_sum G (w_si w13 46 (12 * r + c) (w13.1 0 37))) fun w17 => rc3 G (12 * r + c) (w_si w17 47 (12 * r + c) (w17.1 0 37)) := by
  have e12 : (12 : Int32) * nI r + nI c = nI (12 * r + c) := by rw [show (12 : Int32) = nI 12 from rfl, pk_mul, nI_add]
  have x : ixn 72 (nI (12 * r + c)) = true := u_ixn (by omega) (by decide)
  unfold rc2 rc3
  rw [h35, e12, u_nn, u_ck x, nI_clamp (by omega), u_nn]
  congr 1
  funext w17
  rw [u_ck x, u_nn, u_nn]
  simp only [u_ck x, u_nn]
/-- 'pull' -/
theorem pul_both (hG : GI G) (hs : Syn wlR N T wr w k 0) (hc : c ≤ 12) : (∃ wrA wA, c < 12 ∧ s_X3_takePull G (nI c) wr = some wrA ∧ FrC wr wrA ∧ k < tK N T ∧ Syn wlR N T wrA wA (k + 1) 0 ∧ FrW w wA ∧ p_X12_ruleClause G (nI c) w = rc2 G (nI c) wA) ∨ ∃ wrF wF f, f ≠ 0 ∧ s_X3_takePull G (nI c) wr = some wrF ∧ FrC wr wrF ∧ Syn wlR N T wrF wF k f ∧ FrW w wF ∧ p_X12_ruleClause G (nI c) w = some wF := by
  obtain ⟨hK, hXc, hC, hTw, hW⟩ := id hs
  have hN := hTw.1
  have tle := tp_le (N := N) (T := T) k
  have bl := blanks_W (G := G) hTw hW
  have fW : FrW w (w_si w 0 33 (nI (tp N T k))) := FrW.s (Or.inl rfl)
  have hsb := hs.bl
  have f33 : (w_si w 0 33 (nI (tp N T k))).1 0 33 = nI (tp N T k) := w_si_s _ _ _ _
  have f34 : (w_si w 0 33 (nI (tp N T k))).1 0 34 = 0 := hsb.2.2.2.2.1
  have hTb := hsb.2.2.2.1
  have e7 : wr.1 0 7 = syv wlR N T (tp N T k) := hC.2.2.1
  have st9 : p_X12_stood G (G.2.2.2.1 9) (w_si w 0 33 (nI (tp N T k))) = _ := p_stood' (G := G) hG (ws_R (j := 13) (by decide)) hTb f33 (by omega)
  have w13 := sy_wd (N := N) (T := T) (p := tp N T k) (k := k) (w := w) (j := 13) (by decide) hTw
  generalize w_si w 0 33 (nI (tp N T k)) = wb at bl fW hsb f33 f34 hTb st9
  have bad : ∀ cc : Nat, cc ≤ 4 → s_X3_takePull G (nI c) wr = (ob (s_X8_fail G (nI cc) wr) fun w3 => some w3) → p_X12_ruleClause G (nI c) w = (ob (p_X12_fails G (nI cc) (nI (tp N T k)) wb) fun w8 => some w8) → ∃ wrF wF f, f ≠ 0 ∧ s_X3_takePull G (nI c) wr = some wrF ∧ FrC wr wrF ∧ Syn wlR N T wrF wF k f ∧ FrW w wF ∧ p_X12_ruleClause G (nI c) w = some wF := fun cc hcc e1 e2 => by
    obtain ⟨wr', b1, b2, b3, b4⟩ := q_fail (G := G) hN hK hC (nI cc)
    obtain ⟨w7, d1, d2, d3, d4⟩ := p_fails' (G := G) f34 (nI cc) (nI (tp N T k))
    rw [if_pos rfl] at b4 d4
    have hne := flt_ne (N := N) (T := T) (k := k) (c := cc) hN hcc
    exact ⟨wr', w7, flt N T k (nI cc), hne, by rw [e1, b1, u_ob], b2, ⟨b3, tx_C hXc b2, b4, d2.tx hTb, d4, _, by rw [d3]; exact f33, ⟨by omega, flt_FO hN hcc⟩, fun z => absurd z hne⟩, fW.tr d2, by rw [e2, d1, u_ob]⟩
  by_cases z : wd N T (wlR.getD 13 []) (tp N T k) = true
  · have z7 : wr.1 0 7 = 313 := e7.trans (w13.mpr z)
    rw [if_pos z] at st9
    by_cases y : c = 12
    · refine Or.inr (bad 4 (by decide) ?_ ?_)
      · unfold s_X3_takePull
        rw [if_pos z7, if_pos (show nI c = (12 : Int32) by rw [y]; rfl)]; rfl
      · unfold p_X12_ruleClause
        rw [bl, u_ob, u_nn, st9, u_cw, if_neg n10, if_pos (show nI c = (12 : Int32) by rw [y]; rfl), f33]; rfl
    · have n12 : ¬ nI c = (12 : Int32) := fun q => y ((nI_eq (a := c) (b := 12) (by omega) (by decide)).mp q)
      obtain ⟨l1, l2, l3⟩ := wd_L z (wlR_pos 13 (by decide))
      have hln : ln N T (tp N T k) = 4 := by unfold ln; rw [if_neg (L_D l2), if_pos l2, l3]; rfl
      have hk : k < tK N T := (tp_K hC.1).mp l1
      have e4 : wb.1 0 33 + 4 = nI (tp N T k + 4) := by rw [f33]; exact nI_add (tp N T k) 4
      obtain ⟨wrA, a1, a2, a3⟩ := word_adv (G := G) hs hk hln (w1 := w_si wb 0 33 (wb.1 0 33 + 4)) (by rw [w_si_j (by decide), fW.2 32 (by decide) (by decide)]) (by rw [w_si_r (by decide), fW.1 42 (by decide)]) (by rw [w_si_j (by decide)]; exact f34) (by rw [w_si_s]; exact e4)
      refine Or.inl ⟨wrA, w_si wb 0 33 (wb.1 0 33 + 4), by omega, ?_, a2, hk, a3, fW.tr (FrW.s (Or.inl rfl)), ?_⟩
      · unfold s_X3_takePull
        rw [if_pos z7, if_neg n12, a1, u_ob]
      · unfold p_X12_ruleClause
        rw [bl, u_ob, u_nn, st9, u_cw, if_neg n10, if_neg n12, u_nn]; rfl
  · have z7 : ¬ wr.1 0 7 = 313 := fun q => z (w13.mp (e7.symm.trans q))
    rw [if_neg z] at st9
    refine Or.inr (bad 0 (by decide) ?_ ?_)
    · unfold s_X3_takePull
      rw [if_neg z7]; rfl
    · unfold p_X12_ruleClause
      rw [bl, u_ob, u_nn, st9, u_cw, if_pos rfl, f33]; rfl
/-- 'if', taken or not -/
theorem p_takes' (hG : GI G) {S : List Nat} (hS : WS x S) (hT : TxW N T w) (h : AtW N T w k 0) : p_X12_takes G (G.2.2.2.1 x) w = some (if wd N T S (tp N T k) then 1 else 0, w_si (w_si w 0 33 (nI (tp N T k))) 0 33 (nI (tp N T k + if wd N T S (tp N T k) then S.length else 0))) := by
  have bl := blanks_W (G := G) hT h
  have hN := hT.1
  have tle := tp_le (N := N) (T := T) k
  have hTa : TxW N T (w_si w 0 33 (nI (tp N T k))) := hT.s33 (by decide)
  have e33 : (w_si w 0 33 (nI (tp N T k))).1 0 33 = nI (tp N T k) := w_si_s _ _ _ _
  have st := p_stood' (G := G) hG hS hTa e33 (by omega)
  unfold p_X12_takes
  rw [bl, u_ob, st, u_cw]
  by_cases z : wd N T S (tp N T k) = true
  · rw [if_pos z, if_pos z, if_neg n10, q_len hG hS.1, u_cw, hS.2.1, e33, u_nn, u_ck (by decide), nI_add]
  · rw [if_neg z, if_neg z, if_pos rfl, e33, u_nn, u_ck (by decide)]
    show some ((0 : Int32), w_si _ 0 33 (nI (tp N T k) + nI 0)) = _
    rw [nI_add]
end
