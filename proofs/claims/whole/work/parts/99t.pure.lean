/-! PURE 99t: a rule's text: what is written, and a value. -/
theorem ws_R {j : Nat} (hj : j < 18) : WS ([3, 10, 11, 7, 12, 13, 14, 15, 16, 17, 18, 19, 20, 9, 21, 24, 23, 22].getD j 0) (wlR.getD j []) := by
  have : ∀ j : Nat, j < 18 → WS ([3, 10, 11, 7, 12, 13, 14, 15, 16, 17, 18, 19, 20, 9, 21, 24, 23, 22].getD j 0) (wlR.getD j []) := by unfold WS; decide +kernel
  exact this j hj
theorem wlR_pos (q : Nat) (hq : q < wlR.length) : 0 < (wlR.getD q []).length := by
  have : ∀ q : Nat, q < 18 → 0 < (wlR.getD q []).length := by decide
  exact this q hq
/-- no two words are alike -/
theorem wlR_inj : ∀ i : Nat, i < 18 → ∀ j : Nat, j < 18 → wlR.getD i [] = wlR.getD j [] → i = j := by decide +kernel
section
variable {G : GG} {X t N k n j p r c E C W : Nat} {T : Nat → Nat} {h h' h1 h2 : AH} {w w' w1 w2 wr wr' wr1 : MS} {f : Int32}
theorem w_write (hW : wr.1 6 2 = nI W) (h : W < 400) (x : Int32) : s_X3_write G x wr = some (w_si (w_si wr 7 W x) 6 2 (nI (W + 1))) := by
  unfold s_X3_write
  rw [hW, if_neg (show ¬ (400 : Int32) ≤ nI W from nI_ge (b := 400) h (by omega)), u_ck (u_ixn h (by decide)), nI_clamp (by omega), u_nn, w_si_r (show 6 ≠ 7 by decide), hW, nI_1, u_nn]
/-- whatever is written, the place stays in bounds -/
theorem w_any (hW : wr.1 6 2 = nI W) (h : W ≤ 400) (x : Int32) : ∃ wr' W', s_X3_write G x wr = some wr' ∧ wr'.1 6 2 = nI W' ∧ W ≤ W' ∧ W' ≤ 400 ∧ (∀ r, r ≠ 6 → r ≠ 7 → wr'.1 r = wr.1 r) ∧ (∀ j, j ≠ 2 → wr'.1 6 j = wr.1 6 j) ∧ ∀ j, j ≠ W → wr'.1 7 j = wr.1 7 j := by
  rcases Nat.lt_or_ge W 400 with z | z
  · refine ⟨_, W + 1, w_write hW z x, w_si_s _ _ _ _, by omega, by omega, fun r q1 q2 => by rw [w_si_r q1, w_si_r q2], fun j hj => by rw [w_si_j hj, w_si_r (by decide)], fun j hj => by rw [w_si_r (by decide), w_si_j hj]⟩
  · refine ⟨wr, W, ?_, hW, Nat.le_refl _, h, fun _ _ _ => rfl, fun _ _ => rfl, fun _ _ => rfl⟩
    unfold s_X3_write
    rw [hW, if_pos (show (400 : Int32) ≤ nI W from nI_le (a := 400) z (by omega))]
theorem p_entry0 (h34 : w.1 0 34 = 0) (h35 : w.1 0 35 = nI r) (h37 : w.1 0 37 = nI E) (hr : r < 6) (hE : E < 300) (a b : Int32) : p_X12_entry G a b w = some (w_si (w_si (w_si w 43 (300 * r + E) a) 44 (300 * r + E) b) 0 37 (nI (E + 1))) := by
  have e : (300 : Int32) * nI r + nI E = nI (300 * r + E) := by
    show nI 300 * nI r + nI E = _
    rw [pk_mul, nI_add]
  have x : ixn 1800 (nI (300 * r + E)) = true := u_ixn (by omega) (by decide)
  unfold p_X12_entry
  rw [if_pos h34, h35, h37, e, u_ck x, nI_clamp (by omega), u_nn, w_si_r (show 0 ≠ 43 by decide), h35, h37, e, u_ck x, nI_clamp (by omega), u_nn, w_si_r (show 0 ≠ 44 by decide), w_si_r (show 0 ≠ 43 by decide), h37, nI_1, u_nn]
theorem p_entryF (h34 : w.1 0 34 ≠ 0) (a b : Int32) : p_X12_entry G a b w = some w := by
  unfold p_X12_entry; rw [if_neg h34]
/-- counted -/
theorem p_count (hf : w.1 0 34 = f) (h39 : w.1 0 39 = nI C) (hC : C ≤ 60) (x : Int32) : ∃ w', p_X12_isCounted G x w = some w' ∧ (∀ r, r ≠ 0 → w'.1 r = w.1 r) ∧ (∀ j, j ≠ 34 → j ≠ 39 → w'.1 0 j = w.1 0 j) ∧ w'.1 0 39 = nI (C + 1) ∧ w'.1 0 34 = if f = 0 ∧ C = 60 then ((1 : Int32) + (8 : Int32) * x) + 3 else f := by
  unfold p_X12_isCounted
  rw [u_nn, h39]
  by_cases z : C = 60
  · obtain ⟨w1, d1, d2, d3, d4⟩ := p_fails' (G := G) hf 3 x
    rw [if_pos (show nI C = (60 : Int32) by rw [z]; rfl), d1, u_ob]
    dsimp only
    rw [d2.2 39 (by decide) (by decide), h39, nI_1, u_nn]
    refine ⟨_, rfl, fun r hr => by rw [w_si_r hr, d2.1 r hr], fun j q1 q2 => ?_, w_si_s _ _ _ _, ?_⟩
    · rw [w_si_j q2]
      by_cases y : j = 33
      · rw [y, d3]
      · exact d2.2 j y q1
    · rw [w_si_j (by decide), d4]
      by_cases y : f = 0
      · rw [if_pos y, if_pos ⟨y, z⟩]
      · rw [if_neg y, if_neg (fun q => y q.1)]
  · rw [if_neg (show ¬ nI C = (60 : Int32) from fun q => z ((nI_eq (a := C) (b := 60) (by omega) (by decide)).mp q))]
    dsimp only
    rw [h39, nI_1, u_nn]
    exact ⟨_, rfl, fun r hr => w_si_r hr, fun j _ q2 => w_si_j q2, w_si_s _ _ _ _, by rw [w_si_j (by decide), if_neg (fun q => z q.2)]; exact hf⟩
/-- the digits of a number -/
theorem p_dig (hT : TxW N T w) (hp : w.1 0 33 = nI p) (h0 : w.1 0 34 = 0) (hpN : p < N) (hd : isD (T p) = true) : ∃ w', p_X12_digits G 99999 w = some (dv T p (min (rn isD T p (N - p)) 5), w') ∧ FrW w w' ∧ w'.1 0 33 = nI (p + rn isD T p (N - p)) ∧ w'.1 0 34 = if 5 < rn isD T p (N - p) then ((1 : Int32) + (8 : Int32) * nI p) + 1 else 0 := by
  have hN := hT.1
  have hle2 := rn_le isD T p (N - p)
  have hdig := p_isDigit' (G := G) hT hp (by omega)
  generalize hR : rn isD T p (N - p) = R at hle2
  have dl := fun b K => dig_loop (G := G) (T := T) (N := N) p b R hR hpN R 0 bN w hT (Nat.zero_add _) (bN_gt (by omega)) (by rw [Nat.add_zero]; exact hp) K
  have g33 : (w_si w 0 33 (nI (p + R))).1 0 33 = nI (p + R) := w_si_s _ _ _ _
  have g34 : (w_si w 0 33 (nI (p + R))).1 0 34 = 0 := by rw [w_si_j (by decide)]; exact h0
  have esub : nI (p + R) - nI p = nI R := by rw [pk_sub (by omega), Nat.add_sub_cancel_left]
  have dgt : p_X12_digits G 99999 w = (if (5 : Int32) < nI R then (ob (p_X12_fails G 1 (nI p) (w_si w 0 33 (nI (p + R)))) fun w17 => some (dv T p (min R 5), w17)) else if dv T p (min R 5) ≤ 99999 then some (dv T p (min R 5), w_si w 0 33 (nI (p + R))) else ob (p_X12_fails G 1 (nI p) (w_si w 0 33 (nI (p + R)))) fun w17 => some (dv T p (min R 5), w17)) := by
    unfold p_X12_digits
    rw [hdig, u_cw, if_pos (show p < N ∧ isD (T p) = true from ⟨hpN, hd⟩), if_neg n10, hp, u_nn]
    refine (dl 99999 _).trans ?_
    rw [u_nn, g33, esub]
  by_cases h5 : 5 < R
  · obtain ⟨w1, d1, d2, d3, d4⟩ := p_fails' (G := G) g34 1 (nI p)
    rw [dgt, if_pos (show (5 : Int32) < nI R from nI_lt (a := 5) h5 (by omega)), d1, u_ob]
    exact ⟨w1, rfl, (FrW.s (Or.inl rfl)).tr d2, by rw [d3]; exact g33, by rw [d4, if_pos rfl, if_pos h5]⟩
  · obtain ⟨v, v1, v2⟩ := dv_n T p R (by omega) (fun j hj => rn_in isD T p (N - p) (p + j) (by omega) (by omega))
    have hv5 : v < 100000 := by
      have : 10 ^ R ≤ 10 ^ 5 := Nat.pow_le_pow_right (by decide) (by omega)
      omega
    rw [dgt, if_neg (show ¬ (5 : Int32) < nI R from nI_nlt (a := 5) (by omega) (by omega)), if_pos (show dv T p (min R 5) ≤ (99999 : Int32) by rw [show min R 5 = R by omega, v2]; exact nI_le (b := 99999) (by omega) (by omega))]
    exact ⟨_, rfl, FrW.s (Or.inl rfl), g33, by rw [if_neg h5]; exact g34⟩
theorem t_wordR (hj : j < 13) : p_X12_wordOf G (nI j) w = some (G.2.2.2.1 ([3, 10, 11, 7, 12, 13, 14, 15, 16, 17, 18, 19, 20, 9, 21, 24, 23, 22].getD j 0), w) := by
  unfold p_X12_wordOf
  obtain rfl | rfl | rfl | rfl | rfl | rfl | rfl | rfl | rfl | rfl | rfl | rfl | rfl : j = 0 ∨ j = 1 ∨ j = 2 ∨ j = 3 ∨ j = 4 ∨ j = 5 ∨ j = 6 ∨ j = 7 ∨ j = 8 ∨ j = 9 ∨ j = 10 ∨ j = 11 ∨ j = 12 := by omega
  all_goals rfl
theorem v_loop (hG : GI G) (hT : TxW N T w) (hp : w.1 0 33 = nI p) (h41 : w.1 0 41 = 13) (h9 : p ≤ 900) (x : Int32) (K : Int32 → MS → Option MS) : ∀ (d j n : Nat), j + d = 13 → d < n → lw1 (P_X12_value_38 G x K) n (nI j) w = K (nI (match ff (fun q => wd N T (wlR.getD q []) p) d j with | some e => e | none => 13)) w
  | 0, j, n + 1, e, _ => by
    have : j = 13 := by omega
    subst this
    show P_X12_value_38 G x K _ _ _ = _
    rw [P_X12_value_38, h41, if_pos (show (13 : Int32) ≤ nI 13 by decide)]; rfl
  | d + 1, j, n + 1, e, hn => by
    show P_X12_value_38 G x K _ _ _ = _
    rw [P_X12_value_38, h41, if_neg (show ¬ (13 : Int32) ≤ nI j from nI_ge (b := 13) (by omega) (by omega)), t_wordR (by omega), u_cw, p_stood' hG (ws_R (by omega)) hT hp h9, u_cw]
    by_cases z : wd N T (wlR.getD j []) p = true
    · have : ff (fun q => wd N T (wlR.getD q []) p) (d + 1) j = some j := by unfold ff; exact if_pos z
      rw [if_pos z, if_neg n10, this]
    · have : ff (fun q => wd N T (wlR.getD q []) p) (d + 1) j = ff (fun q => wd N T (wlR.getD q []) p) d (j + 1) := by
        show (if wd N T (wlR.getD j []) p = true then some j else ff (fun q => wd N T (wlR.getD q []) p) d (j + 1)) = _
        rw [if_neg z]
      rw [if_neg z, if_pos rfl, u_nn, nI_1, this]
      exact v_loop hG hT hp h41 h9 x K d (j + 1) n (by omega) (by omega)
/-- frames of the readers of a rule -/
def FrR (r c E : Nat) (wr w wr' w' : MS) : Prop := (∀ x, x ≠ 0 → x ≠ 6 → x ≠ 7 → wr'.1 x = wr.1 x) ∧ (∀ j, j < 6 → wr'.1 0 j = wr.1 0 j) ∧ (∀ j, j ≠ 2 → j ≠ 3 → wr'.1 6 j = wr.1 6 j) ∧ (∀ j, j < E + c → wr'.1 7 j = wr.1 7 j) ∧ (∀ x, x ≠ 0 → x ≠ 43 → x ≠ 44 → w'.1 x = w.1 x) ∧ (∀ j, j ≠ 33 → j ≠ 34 → j ≠ 37 → j ≠ 39 → w'.1 0 j = w.1 0 j) ∧ ∀ j, j < 300 * r + E ∨ 300 * r + 300 ≤ j → w'.1 43 j = w.1 43 j ∧ w'.1 44 j = w.1 44 j
theorem FrR.rf : FrR r c E wr w wr w := ⟨fun _ _ _ _ => rfl, fun _ _ => rfl, fun _ _ _ => rfl, fun _ _ => rfl, fun _ _ _ _ => rfl, fun _ _ _ _ _ => rfl, fun _ _ => ⟨rfl, rfl⟩⟩
theorem FrR.tr {E' : Nat} (a : FrR r c E wr w wr1 w1) (b : FrR r c E' wr1 w1 wr' w') (hE : E ≤ E') : FrR r c E wr w wr' w' := by
  obtain ⟨a1, a2, a3, a4, a5, a6, a7⟩ := a
  obtain ⟨b1, b2, b3, b4, b5, b6, b7⟩ := b
  exact ⟨fun x q1 q2 q3 => (b1 x q1 q2 q3).trans (a1 x q1 q2 q3), fun j hj => (b2 j hj).trans (a2 j hj), fun j q1 q2 => (b3 j q1 q2).trans (a3 j q1 q2), fun j hj => (b4 j (by omega)).trans (a4 j hj), fun x q1 q2 q3 => (b5 x q1 q2 q3).trans (a5 x q1 q2 q3), fun j q1 q2 q3 q4 => (b6 j q1 q2 q3 q4).trans (a6 j q1 q2 q3 q4), fun j hj => ⟨(b7 j (by omega)).1.trans (a7 j hj).1, (b7 j (by omega)).2.trans (a7 j hj).2⟩⟩
/-- both in step, c clauses done -/
def Gd (r c : Nat) (wr w : MS) (E C : Nat) : Prop := w.1 0 37 = nI E ∧ w.1 0 39 = nI C ∧ wr.1 6 3 = nI C ∧ wr.1 6 2 = nI (E + c) ∧ C ≤ 60
def Bs0 (r : Nat) (wr w : MS) : Prop := w.1 0 41 = 13 ∧ w.1 0 35 = nI r ∧ r < 6 ∧ ∃ W, wr.1 6 2 = nI W ∧ W ≤ 400
end
