/-! PURE 99yc: a comparison. -/
section
variable {G : GG} {X t N k n j p r c E C W m v2 M E1 : Nat} {T : Nat → Nat} {w w' w0 w1 w2 w6 wr wr' wr1 : MS} {f v1 : Int32} {wl : List (List Nat)}
theorem ty_cm {a b : Int32} (h : a = 4 ∨ a = 5 ∨ a = 6 ∨ a = 7 ∨ a = 8) (ts : List Bool) : tyS (false :: false :: ts) (a, b) = some (true :: ts) := by
  rcases h with rfl | rfl | rfl | rfl | rfl <;> rfl
theorem cmS_e {x e : Int32} {l : Nat} (h : cmS N T p x l e) : (x = 60 ∨ x = 259 ∨ x = 61 ∨ x = 260 ∨ x = 62) ∧ (e = 4 ∨ e = 5 ∨ e = 6 ∨ e = 7 ∨ e = 8) ∧ encI (e, 0) = -x ∧ EV (e, 0) ∧ l ≤ 2 ∧ (p < N → p + l ≤ N) := by
  rcases h with ⟨rfl, rfl, rfl, -, -⟩ | ⟨rfl, rfl, rfl, -, h1, -⟩ | ⟨rfl, rfl, rfl, -⟩ | ⟨rfl, rfl, rfl, -, h1, -⟩ | ⟨rfl, rfl, rfl, -, -⟩
  · exact ⟨by simp, by simp, rfl, Or.inr (Or.inr (Or.inr (by unfold isOp; simp))), by omega, by omega⟩
  · exact ⟨by simp, by simp, rfl, Or.inr (Or.inr (Or.inr (by unfold isOp; simp))), by omega, by omega⟩
  · exact ⟨by simp, by simp, rfl, Or.inr (Or.inr (Or.inr (by unfold isOp; simp))), by omega, by omega⟩
  · exact ⟨by simp, by simp, rfl, Or.inr (Or.inr (Or.inr (by unfold isOp; simp))), by omega, by omega⟩
  · exact ⟨by simp, by simp, rfl, Or.inr (Or.inr (Or.inr (by unfold isOp; simp))), by omega, by omega⟩
theorem FrF.toR (b : FrF w w') (a : ∀ x, x ≠ 6 → wr'.1 x = wr.1 x) (a6 : ∀ j, j ≠ 2 → j ≠ 3 → wr'.1 6 j = wr.1 6 j) : FrR r c E wr w wr' w' := ⟨fun x _ y2 _ => a x y2, fun j _ => by rw [a 0 (by decide)], a6, fun j _ => by rw [a 7 (by decide)], fun x y1 _ _ => b.1 x y1, fun j y1 _ _ y5 => b.2 j y1 y5, fun j _ => by rw [b.1 43 (by decide), b.1 44 (by decide)]; exact ⟨rfl, rfl⟩⟩
theorem Syn.toF (hs : Syn wl N T wr w k f) (h : AtF N T w' f) (e : ∀ x, x < 6 → wr'.1 x = wr.1 x) : Syn wl N T wr' w' k f := by
  obtain ⟨a, b, c, -, -⟩ := hs.c6 e
  obtain ⟨h1, h2, h3, h4, h5, p, h6, h7⟩ := h
  exact ⟨a, b, c, h1, h2, p, h6, ⟨h7, h3⟩, fun q => absurd q h4⟩
theorem Syn.atF (hs : Syn wl N T wr w k f) (hf : f ≠ 0) (h41 : w.1 0 41 = 13) : AtF N T w f := by
  obtain ⟨-, -, -, d, e34, p, p1, ⟨p2, fo⟩, -⟩ := hs
  exact ⟨d, e34, fo, hf, h41, p, p1, p2⟩
theorem cmpR_F (hG : GI G) (hsum : p_X12_sum G w0 = some w) (h : AtF N T w f) : ∃ w', p_X12_compared G w0 = some w' ∧ AtF N T w' f ∧ FrF w w' := by
  obtain ⟨p, p1, p2⟩ := h.2.2.2.2.2
  have hN := h.1.1
  by_cases q : p < N ∧ (T p = 60 ∨ T p = 61 ∨ T p = 62)
  · obtain ⟨x, l, e, hcm, -, -⟩ := cm_sy (wl := wlR) q.1 q.2
    obtain ⟨-, -, -, -, hl2, hl3⟩ := cmS_e hcm
    have := hl3 q.1
    obtain ⟨w6, a1, a2, a3, a4⟩ := ct_F (G := G) h (nI p)
    obtain ⟨b1, b2⟩ := a2.s33 (q := p + 1) (by omega)
    obtain ⟨c1, c2⟩ := b1.s33 (q := p + l) (by omega)
    obtain ⟨w7, d1, d2, d3⟩ := sumR_F (G := G) hG c1
    refine ⟨w7, ?_, d2, ((a3.tr b2).tr c2).tr d3⟩
    rw [cmpR hsum h.1 p1 q.1 hcm a1 a2.1 (by rw [a4]; exact p1), d1, u_ob, p_entryF (by rw [d2.2.1]; exact d2.2.2.2.1), u_ob]
  · obtain ⟨w6, a1, a2, a3, a4⟩ := fl_F (G := G) h 0 (nI p)
    exact ⟨w6, by rw [cmpR_no hsum h.1 p1 (by omega) q, a1, u_ob], a2, a3⟩
theorem cmpC_F (hsum : s_X3_readSum G wr = some wr1) (h : wr1.1 0 9 ≠ 0) : s_X3_readComparison G wr = some (w_si wr1 6 3 ((wr1.1 6 3) + 1)) := by
  have n9 : ¬ (w_si wr1 6 3 ((wr1.1 6 3) + 1)).1 0 9 = 0 := by rw [w_si_r (by decide)]; exact h
  have fl : ∀ c : Int32, s_X8_fail G c (w_si wr1 6 3 ((wr1.1 6 3) + 1)) = some (w_si wr1 6 3 ((wr1.1 6 3) + 1)) := fun c => by unfold s_X8_fail; rw [if_neg n9]
  have fin : ∀ y : Int32, CjJ G y (w_si wr1 6 3 ((wr1.1 6 3) + 1)) = some (w_si wr1 6 3 ((wr1.1 6 3) + 1)) := fun y => by unfold CjJ; rw [if_neg n9]
  rw [cmpC hsum rfl]
  split
  · split
    · exact fin _
    · rw [fl, u_ob]; exact fin _
  · rw [fl, u_ob]; exact fin _
/-- what comes of a comparison -/
def CmE (N : Nat) (T : Nat → Nat) (r c M : Nat) (wr w : MS) (E C k : Nat) (F P : Option MS) : Prop := ∃ wr' w' k' f', F = some wr' ∧ P = some w' ∧ Syn wlR N T wr' w' k' f' ∧ FrR r c E wr w wr' w' ∧ (∃ W, wr'.1 6 2 = nI W ∧ W ≤ 400 ∧ E + c ≤ W) ∧ (f' = 0 → ∃ E' C', w'.1 0 33 = nI (tp N T k') ∧ k < k' ∧ Gd r c wr' w' E' C' ∧ E ≤ E' ∧ C < C' ∧ E' + 2 * (60 - C') + 1 ≤ M ∧ WrE r c wr' w' E E' ∧ ∀ ts, ts.length ≤ C → tyR ts (seg (ent w'.1 r) (E' - E) E) = some (true :: ts))
/-- a fault at the comparison's sign -/
theorem cm_bad {x : Int32} {cc : Nat} (hcc : cc ≤ 4) (hs : Syn wlR N T wr1 w1 k 0) (hW : ∃ W, wr1.1 6 2 = nI W ∧ W ≤ 400 ∧ E + c ≤ W) (hF : FrR r c E wr w wr1 w1) (hA : AtF N T w' (flt N T k (nI cc))) (hR : ∀ wr2, FrR r c E wr1 w1 wr2 w1 → FrR r c E wr1 w1 wr2 w') {k0 : Nat} {P : Option MS} (hP : P = some w') : CmE N T r c M wr w E C k0 (ob (s_X8_fail G (nI cc) (w_si wr1 6 3 ((wr1.1 6 3) + 1))) fun w13 => CjJ G x w13) P := by
  have hN := hs.2.2.2.1.1
  have hs1 : Syn wlR N T (w_si wr1 6 3 ((wr1.1 6 3) + 1)) w1 k 0 := hs.c6 (fun r hr => w_si_r (by omega))
  obtain ⟨wr2, b1, b2, b3, b4⟩ := q_fail (G := G) hN hs1.1 hs1.2.2.1 (nI cc)
  rw [if_pos rfl] at b4
  have hne := hA.2.2.2.1
  have n9 : ¬ wr2.1 0 9 = 0 := by rw [b4.2.2.2.2]; exact hne
  have e6 : wr2.1 6 = (w_si wr1 6 3 ((wr1.1 6 3) + 1)).1 6 := b2.1 6 (by decide)
  obtain ⟨h1, h2, h3, h4, h5, p, h6, h7⟩ := hA
  have fr2 : FrR r c E wr1 w1 wr2 w1 := ⟨fun x y1 y2 _ => by rw [b2.1 x y1, w_si_r y2], fun j hj => by rw [b2.2 j hj, w_si_r (by decide)], fun j _ y2 => by rw [e6, w_si_j y2], fun j _ => by rw [b2.1 7 (by decide), w_si_r (by decide)], fun _ _ _ _ => rfl, fun _ _ _ _ _ => rfl, fun _ _ => ⟨rfl, rfl⟩⟩
  obtain ⟨W, v1, v2, v3⟩ := hW
  refine ⟨wr2, w', k, _, by rw [b1, u_ob]; unfold CjJ; rw [if_neg n9], hP, ⟨b3, tx_C hs1.2.1 b2, b4, h1, h2, p, h6, ⟨h7, h3⟩, fun z => absurd z hne⟩, hF.tr (hR wr2 fr2) (Nat.le_refl _), ⟨W, by rw [e6, w_si_j (by decide)]; exact v1, v2, v3⟩, fun z => absurd z hne⟩
end
