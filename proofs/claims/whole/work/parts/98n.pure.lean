/-! PURE 98n: getting out and in, without what is suffered. -/
section
variable {G : GG} {c t : Nat} {h h' : AH} {w w' x x' : MS} {v v' : VV}
/-- alike but for the warmth, the crossness and what was suffered -/
def Eqv (v v' : VV) : Prop := (∀ i, i ≠ 11 → v' 1 i = v 1 i) ∧ ∀ r, 2 ≤ r → r ≤ 17 → r ≠ 11 → r ≠ 12 → v' r = v r
def Bz (v : VV) : Prop := bd (v 1 11) 0 60 ∧ ∀ q, q < sN v → bd (v 11 q) 0 300
theorem Eqv.N (e : Eqv v v') : sN v' = sN v := by unfold sN; rw [e.1 6 (by decide)]
theorem Eqv.fr0 (e : Eqv v v') (q : Nat) : fro v' q = fro v q := by unfold fro; rw [e.1 7 (by decide)]
theorem Eqv.st (e : Eqv v v') (hS : St v) (hb : Bz v') : St v' := by
  obtain ⟨s1, s2, s3, s4, s5, s6, s7, s8, s9, s10, s11, s12, s13, s14, s15⟩ := hS
  have e1 := e.1
  have eT : sT v' = sT v := by unfold sT; rw [e1 8 (by decide)]
  have eC : sC v' = sC v := by unfold sC; rw [e1 9 (by decide)]
  have eL : sL v' = sL v := by unfold sL; rw [e1 3 (by decide)]
  refine ⟨by rw [e1 0 (by decide), e1 6 (by decide)]; exact s1, by rw [e1 6 (by decide), e.N]; exact s2, by rw [e1 8 (by decide), eT]; exact s3, by rw [e1 9 (by decide), eC]; exact s4, by rw [e1 3 (by decide), eL]; exact s5, by rw [e1 10 (by decide)]; exact s6, hb.1, by rw [e1 13 (by decide)]; exact s8, by rw [e1 1 (by decide)]; exact s9, by rw [e1 2 (by decide)]; exact s10, fun k hk => ?_, ?_, ?_, fun q hq => ?_, ?_⟩
  · have := s11 k hk
    unfold kv at this ⊢
    rw [e1 12 (by decide), e.2 2 (by decide) (by decide) (by decide) (by decide)]; exact this
  · rw [eT, e.2 13 (by decide) (by decide) (by decide) (by decide), e.2 14 (by decide) (by decide) (by decide) (by decide)]; exact s12
  · rw [eC, e.2 17 (by decide) (by decide) (by decide) (by decide)]; exact s13
  · have hq0 := hq
    rw [e.N] at hq
    have h8 := s2.2
    have := s14 q hq
    unfold SP at this ⊢
    rw [e.2 3 (by decide) (by decide) (by decide) (by decide), e.2 4 (by decide) (by decide) (by decide) (by decide), e.2 5 (by decide) (by decide) (by decide) (by decide), e.2 6 (by decide) (by decide) (by decide) (by decide), e.2 7 (by decide) (by decide) (by decide) (by decide), e.2 8 (by decide) (by decide) (by decide) (by decide), e.2 9 (by decide) (by decide) (by decide) (by decide), e.2 10 (by decide) (by decide) (by decide) (by decide), e.fr0]
    exact ⟨this.1, this.2.1, this.2.2.1, this.2.2.2.1, this.2.2.2.2.1, this.2.2.2.2.2.1, this.2.2.2.2.2.2.1, this.2.2.2.2.2.2.2.1, this.2.2.2.2.2.2.2.2.1, this.2.2.2.2.2.2.2.2.2.1, this.2.2.2.2.2.2.2.2.2.2.1, hb.2 q hq0⟩
  · rw [e.N, e.2 9 (by decide) (by decide) (by decide) (by decide)]; exact s15
theorem Eqv.place (e : Eqv v v') (q : Nat) : placeV v' q = placeV v q := by
  have es : ∀ s, sitV v' s = sitV v s := fun s => by unfold sitV; rw [e.N, e.2 9 (by decide) (by decide) (by decide) (by decide)]
  have ef : freeB v' q = freeB v q := funext fun s => by unfold freeB; rw [e.fr0, es]
  unfold placeV
  rw [ef, e.2 3 (by decide) (by decide) (by decide) (by decide)]
def giS (w : MS) (k : Nat) : MS := if w.1 4 k = w.1 1 10 then w_si (w_si w 10 k 1) 9 k (placeV w.1 k) else w
def goS (w : MS) (k : Nat) : MS := if w.1 10 k = 0 then w else if w.1 5 k = w.1 1 10 then w_si (w_si w 10 k 0) 9 k (-1) else w
theorem getIn_one (hS : St w.1) {k : Nat} (hk : k < sN w.1) (self : Int32 → MS → Option MS) : P_X12_getIn_2 G self (nI k) w = self (nI k + 1) (giS w k) := by
  rw [P_X12_getIn_2, u_ck ix_17_6, tn_6, if_neg (of_eq_false (nle_q hS hk)), u_ck (q8 hS hk), u_ck ix_17_10, u_nn, qc hS hk, tn_10]
  unfold giS
  by_cases z : w.1 4 k = w.1 1 10
  · rw [if_pos z, if_pos z, p_sitsDown hS hk, u_ob]; dsimp only; rw [u_nn]
  · rw [if_neg z, if_neg z]; dsimp only; rw [u_nn]
theorem getOut_one (hS : St w.1) {k : Nat} (hk : k < sN w.1) (self : Int32 → MS → Option MS) : P_X12_getOut_2 G self (nI k) w = self (nI k + 1) (goS w k) := by
  rw [P_X12_getOut_2, u_ck ix_17_6, tn_6, if_neg (of_eq_false (nle_q hS hk)), p_rides hS hk, u_cw, u_nn]
  unfold goS
  by_cases y : w.1 10 k = 0
  · rw [if_pos y, if_pos y]; dsimp only; rw [u_nn]
  · rw [if_neg y, if_neg y, u_ck (q8 hS hk), u_ck ix_17_10, qc hS hk, tn_10]
    by_cases z : w.1 5 k = w.1 1 10
    · rw [if_pos z, if_pos z, u_ck (q8 hS hk), u_nn, u_ck (q8 hS hk), u_nn]; dsimp only; rw [u_nn]
    · rw [if_neg z, if_neg z]; dsimp only; rw [u_nn]
theorem Eqv.si (e : Eqv w.1 x.1) {r q : Nat} (hr : r = 9 ∨ r = 10) (a : Int32) : Eqv (w_si w r q a).1 (w_si x r q a).1 := by
  refine ⟨fun i hi => by rw [w_si_r (by omega), w_si_r (by omega)]; exact e.1 i hi, fun k h1 h2 h3 h4 => ?_⟩
  by_cases z : k = r
  · subst z
    funext j
    rw [w_si_e, w_si_e, e.2 k h1 h2 h3 h4]
  · rw [w_si_r z, w_si_r z]; exact e.2 k h1 h2 h3 h4
theorem Eqv.gi (e : Eqv w.1 x.1) (k : Nat) : Eqv (giS w k).1 (giS x k).1 ∧ Fw (fun k => k = 9 ∨ k = 10) x (giS x k) ∧ (giS x k).2 = x.2 := by
  unfold giS
  rw [e.2 4 (by decide) (by decide) (by decide) (by decide), e.1 10 (by decide), e.place]
  by_cases z : w.1 4 k = w.1 1 10
  · rw [if_pos z, if_pos z]
    exact ⟨(e.si (Or.inr rfl) 1).si (Or.inl rfl) _, (Fw.si (Or.inr rfl)).tr (Fw.si (Or.inl rfl)), rfl⟩
  · rw [if_neg z, if_neg z]; exact ⟨e, Fw.rf, rfl⟩
theorem Eqv.go (e : Eqv w.1 x.1) (k : Nat) : Eqv (goS w k).1 (goS x k).1 ∧ Fw (fun k => k = 9 ∨ k = 10) x (goS x k) ∧ (goS x k).2 = x.2 := by
  unfold goS
  rw [e.2 10 (by decide) (by decide) (by decide) (by decide), e.2 5 (by decide) (by decide) (by decide) (by decide), e.1 10 (by decide)]
  by_cases y : w.1 10 k = 0
  · rw [if_pos y, if_pos y]; exact ⟨e, Fw.rf, rfl⟩
  · rw [if_neg y, if_neg y]
    by_cases z : w.1 5 k = w.1 1 10
    · rw [if_pos z, if_pos z]
      exact ⟨(e.si (Or.inr rfl) 0).si (Or.inl rfl) _, (Fw.si (Or.inr rfl)).tr (Fw.si (Or.inl rfl)), rfl⟩
    · rw [if_neg z, if_neg z]; exact ⟨e, Fw.rf, rfl⟩
theorem Bz.fw (b : Bz x.1) (hF : Fw (fun k => k = 9 ∨ k = 10) x x') : Bz x'.1 := by
  unfold Bz sN at b ⊢; rw [hF 1 (by decide), hF 11 (by decide)]; exact b
theorem out_sim {M : Int} (hM : (w.1 1 10).toInt = M + 1) : ∀ (d k n m : Nat) (h' : AH) (w' x' : MS), k + d = sN w.1 → d < n → d < m → OI c t h w M M (M + 1) M k h' w' → Eqv w'.1 x'.1 → Bz x'.1 → ∃ h2 w2 x2, (∀ K, lq1 (F_X0_changeRiders_2 G c K) n (nI k) h' = K h2) ∧ (∀ m, d < m → lw1 (P_X12_getOut_2 G) m (nI k) w' = some w2) ∧ lw1 (P_X12_getOut_2 G) m (nI k) x' = some x2 ∧ OI c t h w M M (M + 1) M (sN w.1) h2 w2 ∧ Eqv w2.1 x2.1 ∧ Fw (fun k => k = 9 ∨ k = 10) x' x2 ∧ x2.2 = x'.2
  | 0, k, n + 1, m + 1, h', w', x', e, _, _, hI, he, hb => by
    have ek : k = sN w.1 := by omega
    obtain ⟨hC, hS, hF, hW, hl, ha⟩ := hI
    have eN : sN w'.1 = sN w.1 := by unfold sN; rw [hW 1 (by decide)]
    have hSx := he.st hS hb
    have n1 := nle_N hS
    have n2 := nle_N hSx
    rw [he.N] at n2
    rw [eN] at n1 n2
    rw [← ek] at n1 n2
    refine ⟨h', w', x', fun K => ?_, fun m hm => ?_, ?_, ek ▸ ⟨hC, hS, hF, hW, hl, ha⟩, he, Fw.rf, rfl⟩
    · show F_X0_changeRiders_2 G c K _ _ _ = _
      rw [F_X0_changeRiders_2, u_ck (cab_t hC), cab_0 hC, u_ob, u_ck (tr_t hC), tr_i5 hC, if_pos (of_eq_true n1)]
    · obtain ⟨m, rfl⟩ : ∃ j, m = j + 1 := ⟨m - 1, by omega⟩
      show P_X12_getOut_2 G _ _ _ = _
      rw [P_X12_getOut_2, u_ck ix_17_6, tn_6, if_pos (of_eq_true n1)]
    · show P_X12_getOut_2 G _ _ _ = _
      rw [P_X12_getOut_2, u_ck ix_17_6, tn_6, if_pos (of_eq_true n2)]
  | d + 1, k, n + 1, m + 1, h', w', x', e, hn, hm, hI, he, hb => by
    obtain ⟨h1, w1, a1, a2, a3⟩ := out_step (G := G) hM (by omega) hI
    have hS := hI.2.1
    have eN : sN w'.1 = sN w.1 := by unfold sN; rw [hI.2.2.2.1 1 (by decide)]
    have hSx := he.st hS hb
    have ew : w1 = goS w' k := by
      have q1 := a3 (fun _ w => some w)
      rw [getOut_one hS (by omega)] at q1
      exact (Option.some.inj q1).symm
    have eg := he.go k
    rw [← ew] at eg
    obtain ⟨h2, w2, x2, b1, b2, b3, b4, b5, b6, b7⟩ := out_sim hM d (k + 1) n m h1 w1 (goS x' k) (by omega) (by omega) (by omega) a1 eg.1 (hb.fw eg.2.1)
    refine ⟨h2, w2, x2, fun K => ?_, fun m hm => ?_, ?_, b4, b5, eg.2.1.tr b6, b7.trans eg.2.2⟩
    · show F_X0_changeRiders_2 G c K _ _ _ = _
      rw [a2, nI_1]; exact b1 K
    · obtain ⟨m, rfl⟩ : ∃ j, m = j + 1 := ⟨m - 1, by omega⟩
      show P_X12_getOut_2 G _ _ _ = _
      rw [a3, nI_1]; exact b2 m (by omega)
    · show P_X12_getOut_2 G _ _ _ = _
      rw [getOut_one hSx (by rw [he.N, eN]; omega), nI_1]; exact b3
theorem in_sim {M : Int} (hM : (w.1 1 10).toInt = M + 1) : ∀ (d k n m : Nat) (h' : AH) (w' x' : MS), k + d = sN w.1 → d < n → d < m → OI c t h w (M + 1) M (M + 1) (M + 1) k h' w' → Eqv w'.1 x'.1 → Bz x'.1 → ∃ h2 w2 x2, lq1 (F_X0_changeRiders_47 G c) n (nI k) h' = some h2 ∧ (∀ m, d < m → lw1 (P_X12_getIn_2 G) m (nI k) w' = some w2) ∧ lw1 (P_X12_getIn_2 G) m (nI k) x' = some x2 ∧ OI c t h w (M + 1) M (M + 1) (M + 1) (sN w.1) h2 w2 ∧ Eqv w2.1 x2.1 ∧ Fw (fun k => k = 9 ∨ k = 10) x' x2 ∧ x2.2 = x'.2
  | 0, k, n + 1, m + 1, h', w', x', e, _, _, hI, he, hb => by
    have ek : k = sN w.1 := by omega
    obtain ⟨hC, hS, hF, hW, hl, ha⟩ := hI
    have eN : sN w'.1 = sN w.1 := by unfold sN; rw [hW 1 (by decide)]
    have hSx := he.st hS hb
    have n1 := nle_N hS
    have n2 := nle_N hSx
    rw [he.N] at n2
    rw [eN] at n1 n2
    rw [← ek] at n1 n2
    refine ⟨h', w', x', ?_, fun m hm => ?_, ?_, ek ▸ ⟨hC, hS, hF, hW, hl, ha⟩, he, Fw.rf, rfl⟩
    · show F_X0_changeRiders_47 G c _ _ _ = _
      rw [F_X0_changeRiders_47, u_ck (cab_t hC), cab_0 hC, u_ob, u_ck (tr_t hC), tr_i5 hC, if_pos (of_eq_true n1)]
    · obtain ⟨m, rfl⟩ : ∃ j, m = j + 1 := ⟨m - 1, by omega⟩
      show P_X12_getIn_2 G _ _ _ = _
      rw [P_X12_getIn_2, u_ck ix_17_6, tn_6, if_pos (of_eq_true n1)]
    · show P_X12_getIn_2 G _ _ _ = _
      rw [P_X12_getIn_2, u_ck ix_17_6, tn_6, if_pos (of_eq_true n2)]
  | d + 1, k, n + 1, m + 1, h', w', x', e, hn, hm, hI, he, hb => by
    obtain ⟨h1, w1, a1, a2, a3⟩ := in_step (G := G) hM (by omega) hI
    have hS := hI.2.1
    have eN : sN w'.1 = sN w.1 := by unfold sN; rw [hI.2.2.2.1 1 (by decide)]
    have hSx := he.st hS hb
    have ew : w1 = giS w' k := by
      have q1 := a3 (fun _ w => some w)
      rw [getIn_one hS (by omega)] at q1
      exact (Option.some.inj q1).symm
    have eg := he.gi k
    rw [← ew] at eg
    obtain ⟨h2, w2, x2, b1, b2, b3, b4, b5, b6, b7⟩ := in_sim hM d (k + 1) n m h1 w1 (giS x' k) (by omega) (by omega) (by omega) a1 eg.1 (hb.fw eg.2.1)
    refine ⟨h2, w2, x2, ?_, fun m hm => ?_, ?_, b4, b5, eg.2.1.tr b6, b7.trans eg.2.2⟩
    · show F_X0_changeRiders_47 G c _ _ _ = _
      rw [a2, nI_1]; exact b1
    · obtain ⟨m, rfl⟩ : ∃ j, m = j + 1 := ⟨m - 1, by omega⟩
      show P_X12_getIn_2 G _ _ _ = _
      rw [a3, nI_1]; exact b2 m (by omega)
    · show P_X12_getIn_2 G _ _ _ = _
      rw [getIn_one hSx (by rw [he.N, eN]; omega), nI_1]; exact b3
/-- the reference's rows without suffering change their riders as those with it -/
theorem change_sim {M : Int} (hC : Cab h c t w.1) (hS : St w.1) (hM : (w.1 1 10).toInt = M + 1) (ha : ∀ q, q < sN w.1 → w.1 10 q = if (w.1 4 q).toInt ≤ M ∧ M < (w.1 5 q).toInt then 1 else 0) (he : Eqv w.1 x.1) (hb : Bz x.1) {w1 w2 : MS} (g1 : p_X12_getOut G w = some w1) (g2 : p_X12_getIn G w1 = some w2) : ∃ x1 x2, p_X12_getOut G x = some x1 ∧ p_X12_getIn G x1 = some x2 ∧ Eqv w2.1 x2.1 ∧ Fw (fun k => k = 9 ∨ k = 10) x x2 ∧ x2.2 = x.2 := by
  have hI : OI c t h w M M (M + 1) M 0 h w := ⟨hC, hS, Fr.rf, Fw.rf, rfl, fun q hq => by
    simp only [Nat.not_lt_zero, if_false]; exact ha q hq⟩
  obtain ⟨h1, wa, xa, f1, f2, f2', f3, f4, f5, f6⟩ := out_sim (G := G) hM (sN w.1) 0 bN bN h w x (Nat.zero_add _) (bN8 hS) (bN8 hS) hI he hb
  obtain ⟨q1, q2, q3, q4, q5, q6⟩ := f3
  have hI2 : OI c t h w (M + 1) M (M + 1) (M + 1) 0 h1 wa := ⟨q1, q2, q3, q4, q5, fun q hq => by
    rw [q6 q hq]; simp only [hq, Nat.not_lt_zero, if_true, if_false]⟩
  obtain ⟨h2, wb, xb, k1, k2, k2', k3, k4, k5, k6⟩ := in_sim (G := G) hM (sN w.1) 0 bN bN h1 wa xa (Nat.zero_add _) (bN8 hS) (bN8 hS) hI2 f4 (hb.fw f5)
  have ea : wa = w1 := by
    have := f2 bN (bN8 hS)
    exact Option.some.inj (this.symm.trans g1)
  subst ea
  have eb : wb = w2 := by
    have := k2 bN (bN8 hS)
    exact Option.some.inj (this.symm.trans g2)
  subst eb
  exact ⟨xa, xb, f2', k2', k4, f5.tr k5, k6.trans f6⟩
end
