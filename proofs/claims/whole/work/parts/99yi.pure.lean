/-! PURE 99yi: a fact that is a comparison. -/
section
variable {G : GG} {N k r c E C dp nt x : Nat} {T : Nat → Nat} {w w' wr wr' : MS} {st : List Int32} {v1 : Int32} {rf : Int32 → MS → Option MS}
/-- signs on the stack that are still to be written -/
def pdg (st : List Int32) : Nat := (st.filter (fun a => decide (a ≠ 12))).length
/-- both in step within a test; x = 1 while a fact is awaited -/
def TI (N : Nat) (T : Nat → Nat) (r c dp : Nat) (st : List Int32) (wr w : MS) (k E C nt x : Nat) : Prop := Syn wlR N T wr w k 0 ∧ Gd r c wr w E C ∧ (w.1 0 41 = 13 ∧ w.1 0 35 = nI r ∧ r < 6 ∧ c ≤ 13) ∧ w.1 0 38 = nI dp ∧ OS w st ∧ st.length ≤ k ∧ E + pdg st + 2 * (60 - C) ≤ 120 + nt + x ∧ 3 * nt ≤ tp N T k
/-- what comes of a fact -/
def FcE (G : GG) (N : Nat) (T : Nat → Nat) (r c dp : Nat) (st : List Int32) (wr w : MS) (k E C : Nat) (F : Option MS) : Prop := ∃ wr' w' k' f', F = some wr' ∧ FrT r c E wr w wr' w' ∧ (∃ W, wr'.1 6 2 = nI W ∧ W ≤ 400 ∧ E + c ≤ W) ∧ (f' ≠ 0 → Syn wlR N T wr' w' k' f' ∧ ∃ j, j ≤ 4 * (tK N T + 1 - k) ∧ ∀ m, lw2 (P_X12_test_9 G) (m + 1 + j) 1 1 w = some w') ∧ (f' = 0 → ∃ wz j i E' C' nt', j ≤ 4 * (k' - k) ∧ (∀ m, lw2 (P_X12_test_9 G) (m + j) 1 1 w = lw2 (P_X12_test_9 G) m 0 1 wz) ∧ wz.1 0 34 = 0 ∧ i ≤ k' - k ∧ (∀ m, lw0 (P_X12_answers_0 G 9) (m + i) wz = lw0 (P_X12_answers_0 G 9) m w') ∧ TI N T r c dp st wr' w' k' E' C' nt' 0 ∧ k < k' ∧ E ≤ E' ∧ C < C' ∧ WrE r c wr' w' E E' ∧ ∀ ts, ts.length ≤ C → tyR ts (seg (ent w'.1 r) (E' - E) E) = some (true :: ts))
theorem tp_mono {k k' : Nat} (h : k ≤ k') : tp N T k ≤ tp N T k' := by
  obtain ⟨d, rfl⟩ : ∃ d, k' = k + d := ⟨k' - k, by omega⟩
  clear h
  induction d with
  | zero => exact Nat.le_refl _
  | succ d ih =>
    refine Nat.le_trans ih ?_
    by_cases z : k + d < tK N T
    · have := tp_lt z; show tp N T (k + d) ≤ tp N T (k + d + 1); omega
    · have e1 : tp N T (k + d) = N := by unfold tp; rw [if_neg z]
      have e2 : tp N T (k + d + 1) = N := by unfold tp; rw [if_neg (by omega)]
      show tp N T (k + d) ≤ tp N T (k + d + 1)
      omega
theorem fact_cmp (hG : GI G) (h : TI N T r c dp st wr w k E C nt 1) (h1 : wr.1 0 7 ≠ 317) (h2 : wr.1 0 7 ≠ 91) : FcE G N T r c dp st wr w k E C (s_X3_readFact_o G rf v1 wr) := by
  obtain ⟨hs, hg, ⟨h41, h35, hr6, hc⟩, h38, ho, hl, hB, hnt⟩ := h
  obtain ⟨hK, hXc, hC, hTw, hW⟩ := id hs
  have hN := hTw.1
  have tle := tp_le (N := N) (T := T) k
  have bl := blanks_W (G := G) hTw hW
  have fW : FrW w (w_si w 0 33 (nI (tp N T k))) := FrW.s (Or.inl rfl)
  have hsb := hs.bl
  have f33 : (w_si w 0 33 (nI (tp N T k))).1 0 33 = nI (tp N T k) := w_si_s _ _ _ _
  have hTb := hsb.2.2.2.1
  have e7 : wr.1 0 7 = syv wlR N T (tp N T k) := hC.2.2.1
  have nn' : ¬ wd N T (wlR.getD 17 []) (tp N T k) = true := fun q => h1 (e7.trans ((sy_wd (k := k) (w := w) (j := 17) (by decide) hTw).mpr q))
  have st22 := p_stood' (G := G) hG (ws_R (j := 17) (by decide)) hTb f33 (by omega)
  rw [if_neg nn'] at st22
  have sg := p_sign' (G := G) hTb f33 (by omega)
  have n91 : sgn N T (tp N T k) ≠ 91 := fun q => by
    have := (sgn_eq hTw (c := 91) (by decide)).mp q
    exact h2 (e7.trans ((sy_byte (wl := wlR) (w := w) (by decide) hTw (c := 91) (by decide) (by decide) (by decide) (by decide)).1.mpr this))
  have fr := fr_cmp (G := G) bl st22 sg n91
  have hgb : Gd r c wr (w_si w 0 33 (nI (tp N T k))) E C := hg.of FrC.rf fW
  have obb : OS (w_si w 0 33 (nI (tp N T k))) st := ho.cg (fW.2 40 (by decide) (by decide)) (fW.1 49 (by decide))
  obtain ⟨wr', w', k', f', a1, a2, a3, a4, a5, a6⟩ := cmp_both (G := G) (M := 121 + nt - pdg st) hG hsb hgb (by rw [fW.2 41 (by decide) (by decide)]; exact h41) (by rw [fW.2 35 (by decide) (by decide)]; exact h35) hr6 hc (by omega) (by omega)
  rw [a2, u_ob] at fr
  have frR : FrR r c E wr w wr' w' := (FrR.of FrC.rf fW).tr a4 (Nat.le_refl _)
  have tsf := fun m => ts_fact (G := G) (m := m) hW.1
  refine ⟨wr', w', k', f', by rw [fc_cmp h1 h2, a1, u_ob], frR.t, a5, fun z => ⟨a3, 1, by have := hC.1; omega, fun m => ?_⟩, fun z => ?_⟩
  · rw [show m + 1 + 1 = (m + 1) + 1 from rfl, tsf, fr, u_cw]
    exact ts_F (by rw [a3.2.2.2.2.1]; exact z)
  · subst z
    obtain ⟨E', C', b1, b2, b3, b4, b5, b6, b7, b8⟩ := a6 rfl
    have f0 := frR.2.2.2.2.2.1
    have tm := tp_mono (N := N) (T := T) (Nat.le_of_lt b2)
    refine ⟨w', 1, 0, E', C', nt, by omega, fun m => ?_, a3.2.2.2.2.1, Nat.zero_le _, fun m => rfl, ⟨a3, b3, ⟨by rw [f0 41 (by decide) (by decide) (by decide) (by decide)]; exact h41, by rw [f0 35 (by decide) (by decide) (by decide) (by decide)]; exact h35, hr6, hc⟩, by rw [f0 38 (by decide) (by decide) (by decide) (by decide)]; exact h38, ho.cg (f0 40 (by decide) (by decide) (by decide) (by decide)) (frR.2.2.2.2.1 49 (by decide) (by decide) (by decide)), by omega, by omega, by omega⟩, b2, b4, b5, b7, b8⟩
    rw [tsf, fr, u_cw, if_neg n10]
end
