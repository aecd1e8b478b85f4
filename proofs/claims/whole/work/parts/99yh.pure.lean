/-! PURE 99yh: an open sign answered, on both sides. -/
/-- frames of a fact and of a test -/
def FrT (r c E : Nat) (wr w wr' w' : MS) : Prop := (∀ x, x ≠ 0 → x ≠ 6 → x ≠ 7 → wr'.1 x = wr.1 x) ∧ (∀ j, j < 6 → wr'.1 0 j = wr.1 0 j) ∧ (∀ j, j ≠ 2 → j ≠ 3 → wr'.1 6 j = wr.1 6 j) ∧ (∀ j, j < E + c → wr'.1 7 j = wr.1 7 j) ∧ (∀ x, x ≠ 0 → x ≠ 43 → x ≠ 44 → x ≠ 49 → w'.1 x = w.1 x) ∧ (∀ j, j ≠ 33 → j ≠ 34 → j ≠ 37 → j ≠ 38 → j ≠ 39 → j ≠ 40 → w'.1 0 j = w.1 0 j) ∧ ∀ j, j < 300 * r + E ∨ 300 * r + 300 ≤ j → w'.1 43 j = w.1 43 j ∧ w'.1 44 j = w.1 44 j
section
variable {G : GG} {N k r c E C dp : Nat} {T : Nat → Nat} {w w' wr wr' : MS} {st : List Int32}
theorem FrR.t (a : FrR r c E wr w wr' w') : FrT r c E wr w wr' w' := ⟨a.1, a.2.1, a.2.2.1, a.2.2.2.1, fun x y1 y2 y3 _ => a.2.2.2.2.1 x y1 y2 y3, fun j y1 y2 y3 _ y5 _ => a.2.2.2.2.2.1 j y1 y2 y3 y5, a.2.2.2.2.2.2⟩
theorem FrT.tr {wr1 w1 : MS} {E' : Nat} (a : FrT r c E wr w wr1 w1) (b : FrT r c E' wr1 w1 wr' w') (hE : E ≤ E') : FrT r c E wr w wr' w' := by
  obtain ⟨a1, a2, a3, a4, a5, a6, a7⟩ := a
  obtain ⟨b1, b2, b3, b4, b5, b6, b7⟩ := b
  exact ⟨fun x q1 q2 q3 => (b1 x q1 q2 q3).trans (a1 x q1 q2 q3), fun j hj => (b2 j hj).trans (a2 j hj), fun j q1 q2 => (b3 j q1 q2).trans (a3 j q1 q2), fun j hj => (b4 j (by omega)).trans (a4 j hj), fun x q1 q2 q3 q4 => (b5 x q1 q2 q3 q4).trans (a5 x q1 q2 q3 q4), fun j q1 q2 q3 q4 q5 q6 => (b6 j q1 q2 q3 q4 q5 q6).trans (a6 j q1 q2 q3 q4 q5 q6), fun j hj => ⟨(b7 j (by omega)).1.trans (a7 j hj).1, (b7 j (by omega)).2.trans (a7 j hj).2⟩⟩
theorem pop_both {a y : Int32} (hs : Syn wlR N T wr w k 0) (hg : Gd r c wr w E C) (h35 : w.1 0 35 = nI r) (hr6 : r < 6) (hE : E < 300) (hc : E + c < 400) (ho : OS w (a :: st)) : ∃ wr' w', s_X3_write G y wr = some wr' ∧ (∀ m, lw0 (P_X12_answers_0 G a) (m + 1) w = lw0 (P_X12_answers_0 G a) m w') ∧ Syn wlR N T wr' w' k 0 ∧ FrT r c E wr w wr' w' ∧ Gd r c wr' w' (E + 1) C ∧ OS w' st ∧ w'.1 0 38 = w.1 0 38 - (if a = 9 then 1 else 0) ∧ ent w'.1 r E = (a, 0) ∧ wr'.1 7 (E + c) = y ∧ w'.1 0 33 = w.1 0 33 ∧ (∀ x, x < 6 → wr'.1 x = wr.1 x) := by
  obtain ⟨wr1, w1, a1, a2, a3, a4, a5, a6, a7, a8, a9, a10, a11⟩ := one_both (G := G) hs hg ⟨h35, hr6⟩ hE hc (a := a) (b := 0) (y := y)
  have an := fun m => an_yes (G := G) (m := m) ho hs.2.2.2.2.1 a2 (a10 40 (by decide))
  have o1 : OS w1 (a :: st) := ho.cg (a10 40 (by decide)) a11
  have o2 := o1.pop
  have e38 : (w_si w1 0 40 (nI st.length)).1 0 38 = w.1 0 38 := by rw [w_si_j (by decide)]; exact a10 38 (by decide)
  have fr2 : ∀ y1 : Int32, FrT r c E wr1 w1 wr1 (w_si (w_si w1 0 40 (nI st.length)) 0 38 y1) := fun y1 => ⟨fun _ _ _ _ => rfl, fun _ _ => rfl, fun _ _ _ => rfl, fun _ _ => rfl, fun x u1 _ _ _ => by rw [w_si_r u1, w_si_r u1], fun j _ _ _ u4 _ u6 => by rw [w_si_j u4, w_si_j u6], fun j _ => by rw [w_si_r (by decide), w_si_r (by decide), w_si_r (by decide), w_si_r (by decide)]; exact ⟨rfl, rfl⟩⟩
  refine ⟨wr1, _, a1, an, a3.cw (fun j hj => by rw [w_si_j (by omega), w_si_j (by omega)]) (by rw [w_si_r (by decide), w_si_r (by decide)]), (FrR.t a4).tr (fr2 _) (Nat.le_refl _), ⟨?_, ?_, a5.2.2.1, a5.2.2.2.1, a5.2.2.2.2⟩, o2.cg (w_si_j (by decide)) (by rw [w_si_r (by decide)]), by rw [w_si_s, e38], ?_, a7, by rw [w_si_j (by decide), w_si_j (by decide)]; exact a8, a9⟩
  · rw [w_si_j (by decide), w_si_j (by decide)]; exact a5.1
  · rw [w_si_j (by decide), w_si_j (by decide)]; exact a5.2.1
  · have : ∀ y1 : Int32, ent (w_si (w_si w1 0 40 (nI st.length)) 0 38 y1).1 r E = ent w1.1 r E := fun y1 => by unfold ent; rw [w_si_r (by decide), w_si_r (by decide), w_si_r (by decide), w_si_r (by decide)]
    rw [this, a6]
/-- a word's place passed over, on both sides: 'not', 'and', 'or' of j letters -/
theorem word_adv (hs : Syn wlR N T wr w k 0) (hk : k < tK N T) {w1 : MS} {l : Nat} (hl : ln N T (tp N T k) = l) (e0 : w1.1 0 32 = w.1 0 32) (e42 : w1.1 42 = w.1 42) (h34 : w1.1 0 34 = 0) (h33 : w1.1 0 33 = nI (tp N T k + l)) : ∃ wr', s_X8_advance G wr = some wr' ∧ FrC wr wr' ∧ Syn wlR N T wr' w1 (k + 1) 0 := by
  obtain ⟨hK, hXc, hC, hTw, hW⟩ := id hs
  have hN := hTw.1
  obtain ⟨wrA, a1, a2, a3, a4⟩ := adv_C (G := G) hN hK hC hk
  have te := tk_end hk
  have tg := tk_gap hk
  rw [hl] at te tg
  have tl := tp_le (N := N) (T := T) (k + 1)
  exact ⟨wrA, a1, a2, a3, tx_C hXc a2, a4, hTw.cg e0 e42, h34, _, h33, ⟨by omega, FO_0⟩, fun _ => ⟨te, tg⟩⟩
end
