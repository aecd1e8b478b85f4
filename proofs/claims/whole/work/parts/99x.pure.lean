/-! PURE 99x: a sum. -/
theorem seg_add (es : Nat → EN) : ∀ a b k, seg es (a + b) k = seg es a k ++ seg es b (k + a)
  | 0, b, k => by rw [Nat.zero_add]; rfl
  | a + 1, b, k => by
    rw [show a + 1 + b = (a + b) + 1 by omega]
    show es k :: seg es (a + b) (k + 1) = es k :: (seg es a (k + 1) ++ seg es b (k + (a + 1)))
    rw [seg_add es a b (k + 1), show k + 1 + a = k + (a + 1) by omega]
theorem seg_cg {es es' : Nat → EN} : ∀ {d k : Nat}, (∀ i, k ≤ i → i < k + d → es' i = es i) → seg es' d k = seg es d k
  | 0, _, _ => rfl
  | d + 1, k, h => by
    show es' k :: seg es' d (k + 1) = es k :: seg es d (k + 1)
    rw [h k (Nat.le_refl _) (by omega), seg_cg (fun i q1 q2 => h i (by omega) (by omega))]
theorem tyR_app : ∀ (xs ys : List EN) (ts us : List Bool), tyR ts xs = some us → tyR ts (xs ++ ys) = tyR us ys
  | [], ys, ts, us, h => by cases h; rfl
  | x :: xs, ys, ts, us, h => by
    show (match tyS ts x with | none => none | some u => tyR u (xs ++ ys)) = _
    have h' : (match tyS ts x with | none => none | some u => tyR u xs) = some us := h
    cases hx : tyS ts x with
    | none => rw [hx] at h'; cases h'
    | some u => rw [hx] at h'; exact tyR_app xs ys u us h'
theorem ty_op {a b : Int32} (h : a = 2 ∨ a = 3 ∨ a = 13 ∨ a = 14 ∨ a = 15) (ts : List Bool) : tyS (false :: false :: ts) (a, b) = some (false :: ts) := by
  rcases h with rfl | rfl | rfl | rfl | rfl <;> rfl
theorem ty_val {e : EN} (h : e.1 = 0 ∨ e.1 = 1) {ts : List Bool} (hl : ts.length < 60) : tyS ts e = some (false :: ts) := by
  unfold tyS; rw [if_pos h, if_pos hl]
section
variable {G : GG} {X t N k n j p r c E C W m v2 M E1 : Nat} {T : Nat → Nat} {w w' w1 w2 wr wr' wr1 : MS} {f v1 : Int32} {wl : List (List Nat)}
/-- what was written -/
def WrE (r c : Nat) (wr w : MS) (E E' : Nat) : Prop := ∀ i, E ≤ i → i < E' → EV (ent w.1 r i) ∧ wr.1 7 (i + c) = encI (ent w.1 r i)
theorem ent_fr (hr : r < 6) (h : FrR r c E1 wr w wr' w') {i : Nat} (hi : i < E1) : ent w'.1 r i = ent w.1 r i := by
  have := h.2.2.2.2.2.2 (300 * r + i) (Or.inl (by omega))
  unfold ent; rw [this.1, this.2]
theorem WrE.fr (hr : r < 6) (a : WrE r c wr w E E1) (h : FrR r c E1 wr w wr' w') : WrE r c wr' w' E E1 := fun i q1 q2 => by
  rw [ent_fr hr h q2, h.2.2.2.1 (i + c) (by omega)]; exact a i q1 q2
theorem FrR.of (a : FrC wr wr') (b : FrW w w') : FrR r c E wr w wr' w' := ⟨fun x y1 _ _ => a.1 x y1, a.2, fun j _ _ => by rw [a.1 6 (by decide)], fun j _ => by rw [a.1 7 (by decide)], fun x y1 _ _ => b.1 x y1, fun j y1 y2 _ _ => b.2 j y1 y2, fun j _ => by rw [b.1 43 (by decide), b.1 44 (by decide)]; exact ⟨rfl, rfl⟩⟩
theorem Gd.of (h : Gd r c wr w E C) (a : FrC wr wr') (b : FrW w w') : Gd r c wr' w' E C := ⟨by rw [b.2 37 (by decide) (by decide)]; exact h.1, by rw [b.2 39 (by decide) (by decide)]; exact h.2.1, by rw [a.1 6 (by decide)]; exact h.2.2.1, by rw [a.1 6 (by decide)]; exact h.2.2.2.1, h.2.2.2.2⟩
theorem Syn.bl (hs : Syn wl N T wr w k 0) : Syn wl N T wr (w_si w 0 33 (nI (tp N T k))) k 0 := by
  obtain ⟨a, b, c, d, e⟩ := hs
  have hN := d.1
  have := tp_le (N := N) (T := T) k
  exact ⟨a, b, c, d.s33 (by decide), by rw [w_si_j (by decide)]; exact e.1, tp N T k, w_si_s _ _ _ _, ⟨by omega, FO_0⟩, fun _ => ⟨Nat.le_refl _, fun j q1 q2 => by omega⟩⟩
/-- a sign passed over, a value read -/
theorem adv_val (hG : GI G) (hs : Syn wlR N T wr w k 0) (hg : Gd r c wr w E C) (h41 : w.1 0 41 = 13) (hr : w.1 0 35 = nI r ∧ r < 6) (hE : E < 290) (hc : c ≤ 13) (hp : tp N T k < N) (hl : ln N T (tp N T k) = 1) : ∃ wrA wrB wB kB fB, s_X8_advance G wr = some wrA ∧ s_X3_readValue G wrA = some wrB ∧ p_X12_value G (w_si w 0 33 (nI (tp N T k + 1))) = some wB ∧ Syn wlR N T wrB wB kB fB ∧ FrR r c E wr w wrB wB ∧ (∃ W, wrB.1 6 2 = nI W ∧ W ≤ 400 ∧ E + c ≤ W) ∧ (fB = 0 → kB = k + 2 ∧ k + 1 < tK N T ∧ C < 60 ∧ Gd r c wrB wB (E + 1) (C + 1) ∧ ((ent wB.1 r E).1 = 0 ∨ (ent wB.1 r E).1 = 1) ∧ EV (ent wB.1 r E) ∧ wrB.1 7 (E + c) = encI (ent wB.1 r E)) := by
  obtain ⟨hK, hXc, hC, hTw, hW⟩ := id hs
  have hN := hTw.1
  have hk : k < tK N T := (tp_K hC.1).mp hp
  obtain ⟨wrA, a1, a2, a3, a4⟩ := adv_C (G := G) hN hK hC hk
  have te := tk_end hk
  have tg := tk_gap hk
  rw [hl] at te tg
  have tl := tp_le (N := N) (T := T) (k + 1)
  have fW : FrW w (w_si w 0 33 (nI (tp N T k + 1))) := FrW.s (Or.inl rfl)
  have hsA : Syn wlR N T wrA (w_si w 0 33 (nI (tp N T k + 1))) (k + 1) 0 := ⟨a3, tx_C hXc a2, a4, hTw.s33 (by decide), by rw [w_si_j (by decide)]; exact hW.1, _, w_si_s _ _ _ _, ⟨by omega, FO_0⟩, fun _ => ⟨te, tg⟩⟩
  obtain ⟨wrB, wB, kB, fB, b1, b2, b3, b4, b5, b6⟩ := val_both (G := G) hG hsA (hg.of a2 fW) (by rw [fW.2 41 (by decide) (by decide)]; exact h41) ⟨by rw [fW.2 35 (by decide) (by decide)]; exact hr.1, hr.2⟩ hE hc
  exact ⟨wrA, wrB, wB, kB, fB, a1, b1, b2, b3, (FrR.of a2 fW).tr b4 (Nat.le_refl _), b5, fun z => by
    obtain ⟨y1, y2, y3⟩ := b6 z
    exact ⟨by omega, y2, y3⟩⟩
/-- what comes of a sum -/
def SmE (N : Nat) (T : Nat → Nat) (r c M : Nat) (wr w : MS) (E C k : Nat) (ti : List Bool) (F P : Option MS) : Prop := ∃ wr' w' k' f', F = some wr' ∧ P = some w' ∧ Syn wlR N T wr' w' k' f' ∧ FrR r c E wr w wr' w' ∧ (∃ W, wr'.1 6 2 = nI W ∧ W ≤ 400 ∧ E + c ≤ W) ∧ (f' = 0 → ∃ E' C', w'.1 0 33 = nI (tp N T k') ∧ k ≤ k' ∧ Gd r c wr' w' E' C' ∧ E ≤ E' ∧ C ≤ C' ∧ E' + 2 * (60 - C') ≤ M ∧ WrE r c wr' w' E E' ∧ ∀ ts, ts.length + ti.length ≤ C → tyR (ti ++ ts) (seg (ent w'.1 r) (E' - E) E) = some (false :: ts))
/-- with a fault nothing more is read -/
theorem any_F (hs : Syn wl N T wr w k f) (hb : ∃ W, wr.1 6 2 = nI W ∧ W ≤ 400 ∧ E + c ≤ W) (x : Int32) : ∃ wr', s_X3_write G x wr = some wr' ∧ Syn wl N T wr' w k f ∧ FrR r c E wr w wr' w ∧ ∃ W, wr'.1 6 2 = nI W ∧ W ≤ 400 ∧ E + c ≤ W := by
  obtain ⟨W, h1, h2, h3⟩ := hb
  obtain ⟨wr', W', a1, a2, a3, a4, a5, a6, a7⟩ := w_any (G := G) h1 h2 x
  exact ⟨wr', a1, hs.c6 (fun r hr => a5 r (by omega) (by omega)), ⟨fun x _ y2 y3 => a5 x y2 y3, fun j _ => by rw [a5 0 (by decide) (by decide)], fun j y1 _ => a6 j y1, fun j hj => a7 j (by omega), fun _ _ _ _ => rfl, fun _ _ _ _ _ => rfl, fun _ _ => ⟨rfl, rfl⟩⟩, W', a2, a4, by omega⟩
theorem ks_F (hs : Syn wl N T wr w k f) (hb : ∃ W, wr.1 6 2 = nI W ∧ W ≤ 400 ∧ E + c ≤ W) (x : Int32) : ∃ wr', KS G x wr = some wr' ∧ Syn wl N T wr' w k f ∧ FrR r c E wr w wr' w ∧ ∃ W, wr'.1 6 2 = nI W ∧ W ≤ 400 ∧ E + c ≤ W := by
  unfold KS
  by_cases z : x = 0
  · rw [if_pos z]; exact ⟨wr, rfl, hs, FrR.rf, hb⟩
  · obtain ⟨wr', a1, a2, a3, a4⟩ := any_F (G := G) (r := r) hs hb (-x)
    rw [if_neg z, a1, u_ob]
    exact ⟨wr', rfl, a2, a3, a4⟩
/-- the loop, with a fault -/
theorem sm_F (hs : Syn wlR N T wr w k f) (hf : f ≠ 0) (hb : ∃ W, wr.1 6 2 = nI W ∧ W ≤ 400 ∧ E + c ≤ W) (ti : List Bool) (x : Int32) {m1 m2 k0 : Nat} : SmE N T r c M wr w E C k0 ti (lw2 (S_X3_readSum_8 G (KS G)) (m + 1) v1 x wr) (RT G (m1 + 1) (m2 + 1) v1 w) := by
  obtain ⟨wr', a1, a2, a3, a4⟩ := ks_F (G := G) (r := r) hs hb v1
  exact ⟨wr', w, k, f, by rw [c8_F (by rw [hs.2.2.1.2.2.2.2]; exact hf), a1], RT_F (by rw [hs.2.2.2.2.1]; exact hf), a2, a3, a4, fun z => absurd z hf⟩
theorem SmE.pre {F P : Option MS} {ti ti' : List Bool} {k1 C1 : Nat} (hr : r < 6) (a : SmE N T r c M wr1 w1 E1 C1 k1 ti' F P) (hF : FrR r c E wr w wr1 w1) (hE : E ≤ E1) (hC : C ≤ C1) (hk : k ≤ k1) (hw : WrE r c wr1 w1 E E1) (ht : ∀ ts, ts.length + ti.length ≤ C → ts.length + ti'.length ≤ C1 ∧ tyR (ti ++ ts) (seg (ent w1.1 r) (E1 - E) E) = some (ti' ++ ts)) : SmE N T r c M wr w E C k ti F P := by
  obtain ⟨wr', w', k', f', a1, a2, a3, a4, ⟨W, b1, b2, b3⟩, a6⟩ := a
  refine ⟨wr', w', k', f', a1, a2, a3, hF.tr a4 hE, ⟨W, b1, b2, by omega⟩, fun z => ?_⟩
  obtain ⟨E', C', d1, d2, d3, d4, d5, d6, d7, d8⟩ := a6 z
  refine ⟨E', C', d1, by omega, d3, by omega, by omega, d6, fun i q1 q2 => ?_, fun ts hts => ?_⟩
  · rcases Nat.lt_or_ge i E1 with y | y
    · exact (hw.fr hr a4) i q1 y
    · exact d7 i y q2
  · obtain ⟨t1, t2⟩ := ht ts hts
    rw [show E' - E = (E1 - E) + (E' - E1) by omega, seg_add, show E + (E1 - E) = E1 by omega, tyR_app _ _ _ (ti' ++ ts)]
    · exact d8 ts t1
    · rw [seg_cg (es := ent w1.1 r) (fun i q1 q2 => ent_fr hr a4 (by omega))]; exact t2
end
