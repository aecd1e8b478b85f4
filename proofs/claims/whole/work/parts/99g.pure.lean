/-! PURE 99g: both readers at one token. -/
section
variable {G : GG} {N : Nat} {T : Nat → Nat} {wr wr' wr1 w w' w1 : MS} {wl : List (List Nat)} {x i k p e : Nat} {f : Int32}
def FrC (wr wr' : MS) : Prop := (∀ r, r ≠ 0 → wr'.1 r = wr.1 r) ∧ ∀ j, j < 6 → wr'.1 0 j = wr.1 0 j
theorem FrC.rf : FrC wr wr := ⟨fun _ _ => rfl, fun _ _ => rfl⟩
theorem FrC.tr (a : FrC wr wr1) (b : FrC wr1 wr') : FrC wr wr' := ⟨fun r h => (b.1 r h).trans (a.1 r h), fun j h => (b.2 j h).trans (a.2 j h)⟩
def FrW (w w' : MS) : Prop := (∀ r, r ≠ 0 → w'.1 r = w.1 r) ∧ ∀ j, j ≠ 33 → j ≠ 34 → w'.1 0 j = w.1 0 j
theorem FrW.rf : FrW w w := ⟨fun _ _ => rfl, fun _ _ _ => rfl⟩
theorem FrW.tr (a : FrW w w1) (b : FrW w1 w') : FrW w w' := ⟨fun r h => (b.1 r h).trans (a.1 r h), fun j h1 h2 => (b.2 j h1 h2).trans (a.2 j h1 h2)⟩
theorem FrW.s {j : Nat} {y : Int32} (hj : j = 33 ∨ j = 34) : FrW w (w_si w 0 j y) := ⟨fun r h => w_si_r h, fun i h1 h2 => w_si_j (by omega)⟩
theorem FrW.tx (a : FrW w w') (h : TxW N T w) : TxW N T w' := h.cg (a.2 32 (by decide) (by decide)) (a.1 42 (by decide))
def FO (f : Int32) : Prop := ∃ c : Nat, c < 4000 ∧ f = nI c
theorem FO_0 : FO 0 := ⟨0, by decide, rfl⟩
/-- the reference's place: before token k, if there is no fault -/
def AtW (N : Nat) (T : Nat → Nat) (w : MS) (k : Nat) (f : Int32) : Prop := w.1 0 34 = f ∧ ∃ p, w.1 0 33 = nI p ∧ (p ≤ 402 ∧ FO f) ∧ (f = 0 → p ≤ tp N T k ∧ ∀ j, p ≤ j → j < tp N T k → T j = 32)
def Syn (wl : List (List Nat)) (N : Nat) (T : Nat → Nat) (wr w : MS) (k : Nat) (f : Int32) : Prop := Tks wl N T wr ∧ TxC N T wr ∧ AtC wl N T wr k f ∧ TxW N T w ∧ AtW N T w k f
def flt (N : Nat) (T : Nat → Nat) (k : Nat) (c : Int32) : Int32 := ((1 : Int32) + (8 : Int32) * nI (tp N T k)) + c
theorem flt_n (hN : N ≤ 400) {c : Nat} (hc : c ≤ 4) : flt N T k (nI c) = nI (1 + 8 * tp N T k + c) := by
  unfold flt
  show (nI 1 + nI 8 * nI (tp N T k)) + nI c = _
  rw [pk_mul, nI_add, nI_add]
theorem flt_FO (hN : N ≤ 400) {c : Nat} (hc : c ≤ 4) : FO (flt N T k (nI c)) := by
  have := tp_le (N := N) (T := T) k
  exact ⟨_, by omega, flt_n hN hc⟩
theorem flt_ne (hN : N ≤ 400) {c : Nat} (hc : c ≤ 4) : flt N T k (nI c) ≠ 0 := by
  have := tp_le (N := N) (T := T) k
  rw [flt_n hN hc]; exact nI_ne0 (by omega) (by omega)
theorem q_fail (hN : N ≤ 400) (hK : Tks wl N T wr) (h : AtC wl N T wr k f) (c : Int32) : ∃ wr', s_X8_fail G c wr = some wr' ∧ FrC wr wr' ∧ Tks wl N T wr' ∧ AtC wl N T wr' k (if f = 0 then flt N T k c else f) := by
  have hk := tK_le N T
  unfold s_X8_fail
  rw [h.2.2.2.2]
  by_cases z : f = 0
  · have e3 := (hK.2 k h.1).2.1
    rw [if_pos z, if_pos z, h.2.1, u_ck (u_ixn (by have := h.1; omega) (by decide)), nI_clamp (by have := h.1; omega), e3, u_nn]
    exact ⟨_, rfl, ⟨fun r hr => w_si_r hr, fun j hj => w_si_j (by omega)⟩, ⟨by rw [w_si_j (by decide)]; exact hK.1, fun q hq => by rw [w_si_r (by decide), w_si_r (by decide), w_si_r (by decide)]; exact hK.2 q hq⟩, h.1, by rw [w_si_j (by decide)]; exact h.2.1, by rw [w_si_j (by decide)]; exact h.2.2.1, by rw [w_si_j (by decide)]; exact h.2.2.2.1, w_si_s _ _ _ _⟩
  · rw [if_neg z, if_neg z]
    exact ⟨wr, rfl, FrC.rf, hK, h⟩
theorem p_fails' (h34 : w.1 0 34 = f) (c : Int32) (pl : Int32) : ∃ w', p_X12_fails G c pl w = some w' ∧ FrW w w' ∧ w'.1 0 33 = w.1 0 33 ∧ w'.1 0 34 = (if f = 0 then ((1 : Int32) + (8 : Int32) * pl) + c else f) := by
  unfold p_X12_fails
  rw [h34]
  by_cases z : f = 0
  · rw [if_pos z, if_pos z, u_nn]; exact ⟨_, rfl, FrW.s (Or.inr rfl), w_si_j (by decide), w_si_s _ _ _ _⟩
  · rw [if_neg z, if_neg z, u_nn]; exact ⟨_, rfl, FrW.s (Or.inr rfl), w_si_j (by decide), w_si_s _ _ _ _⟩
theorem adv_C (hN : N ≤ 400) (hK : Tks wl N T wr) (h : AtC wl N T wr k f) (hk : k < tK N T) : ∃ wr', s_X8_advance G wr = some wr' ∧ FrC wr wr' ∧ Tks wl N T wr' ∧ AtC wl N T wr' (k + 1) f := by
  have e6 : wr.1 0 6 = nI (k + 1) - 1 := by rw [nI_pred]; exact h.2.1
  refine ⟨_, q_advance hN hK e6 hk, ⟨fun r hr => by rw [w_si_r hr, w_si_r hr, w_si_r hr], fun j hj => by rw [w_si_j (by omega), w_si_j (by omega), w_si_j (by omega)]⟩, ⟨by rw [w_si_j (by decide), w_si_j (by decide), w_si_j (by decide)]; exact hK.1, fun q hq => by rw [w_si_r (by decide), w_si_r (by decide), w_si_r (by decide), w_si_r (by decide), w_si_r (by decide), w_si_r (by decide), w_si_r (by decide), w_si_r (by decide), w_si_r (by decide)]; exact hK.2 q hq⟩, hk, by rw [w_si_j (by decide), w_si_j (by decide), w_si_s], by rw [w_si_j (by decide), w_si_s], w_si_s _ _ _ _, by rw [w_si_j (by decide), w_si_j (by decide), w_si_j (by decide)]; exact h.2.2.2.2⟩
theorem tx_C (h : TxC N T wr) (a : FrC wr wr') : TxC N T wr' := ⟨h.1, by rw [a.2 1 (by decide)]; exact h.2.1, fun i hi => by rw [a.1 1 (by decide)]; exact h.2.2 i hi⟩
theorem tp_nb : tp N T k < N → T (tp N T k) ≠ 32 := fun h => by
  by_cases hk : k < tK N T
  · exact (stt_ok (tp_ok hk).2.1).1
  · unfold tp at h; rw [if_neg hk] at h; omega
theorem tp_K (hk : k ≤ tK N T) : tp N T k < N ↔ k < tK N T := by
  constructor
  · intro h
    rcases Nat.lt_or_ge k (tK N T) with z | z
    · exact z
    · unfold tp at h; rw [if_neg (by omega)] at h; omega
  · intro h; exact (tp_ok h).1
/-- blanks passed over, to the token -/
theorem blanks_W (hT : TxW N T w) (h : AtW N T w k 0) : p_X12_blanks G w = some (w_si w 0 33 (nI (tp N T k))) := by
  obtain ⟨-, p, h1, -, h3⟩ := h
  obtain ⟨h3, h4⟩ := h3 rfl
  exact p_blanks_e hT h1 h3 (tp_le k) tp_nb h4
theorem blanks_F (hT : TxW N T w) (h : AtW N T w k f) (hf : f ≠ 0) : ∃ w', p_X12_blanks G w = some w' ∧ FrW w w' ∧ AtW N T w' k f := by
  obtain ⟨h0, p, h1, ⟨h2, h2'⟩, -⟩ := h
  have hN := hT.1
  obtain ⟨e, e1, e2, e3⟩ := p_blanks_any (G := G) hT h1 (by omega)
  exact ⟨_, e3, FrW.s (Or.inl rfl), by rw [w_si_j (by decide)]; exact h0, e, w_si_s _ _ _ _, ⟨by omega, h2'⟩, fun q => absurd q hf⟩
theorem dv_big (T : Nat → Nat) (i : Nat) {m : Nat} (h : 5 < m) : dv T i m = -1 := by
  obtain ⟨q, rfl⟩ : ∃ q, m = q + 1 := ⟨m - 1, by omega⟩
  rw [dv_s, if_neg (by omega)]
/-- a number, on both sides -/
theorem num_both (hl20 : wl.length ≤ 20) (hs : Syn wl N T wr w k f) {lo hi : Int32} (hlo : 0 ≤ lo.toInt) : ∃ r r' wr' w' k' f', s_X8_takeNumber G lo hi wr = some (r, wr') ∧ p_X12_amount G lo hi w = some (r', w') ∧ Syn wl N T wr' w' k' f' ∧ FrC wr wr' ∧ FrW w w' ∧ (f ≠ 0 → f' = f) ∧ (f' = 0 → f = 0 ∧ r = r' ∧ lo ≤ r ∧ r ≤ hi ∧ k' = k + 1 ∧ k < tK N T) ∧ (f' ≠ 0 → r = -1) := by
  obtain ⟨hK, hX, hC, hT, hW⟩ := hs
  have hN := hT.1
  have h0 := hC.2.2.2.2
  by_cases hf : f = 0
  rotate_left
  · -- a fault already
    obtain ⟨wa, a1, a2, a3⟩ := blanks_F (G := G) hT hW hf
    have cl : ∀ c : Int32, s_X8_fail G c wr = some wr := fun c => by unfold s_X8_fail; rw [h0, if_neg hf]
    refine ⟨-1, 0, wr, wa, k, f, ?_, ?_, ⟨hK, hX, hC, a2.tx hT, a3⟩, FrC.rf, a2, fun _ => rfl, fun q => absurd q hf, fun _ => rfl⟩
    · unfold s_X8_takeNumber
      rw [u_nn]
      by_cases z : wr.1 0 7 = 256
      · rw [if_pos z, u_nn]
        by_cases y : wr.1 0 8 < lo
        · rw [if_pos y]; dsimp only; rw [cl, u_ob, h0, if_neg hf]
        · rw [if_neg y]
          by_cases u : wr.1 0 8 ≤ hi
          · rw [if_pos u]; dsimp only; rw [h0, if_neg hf]
          · rw [if_neg u]; dsimp only; rw [cl, u_ob, h0, if_neg hf]
      · rw [if_neg z, cl, u_ob]; dsimp only; rw [h0, if_neg hf]
    · unfold p_X12_amount
      have e34 : wa.1 0 34 = f := a3.1
      rw [a1, u_ob, u_nn, u_nn, e34, if_neg hf]
      dsimp only
      rw [e34, if_neg hf]
  · subst hf
    have hkK := hC.1
    have bl := blanks_W (G := G) hT hW
    have f34 : (w_si w 0 33 (nI (tp N T k))).1 0 34 = 0 := by rw [w_si_j (by decide)]; exact hW.1
    have f33 : (w_si w 0 33 (nI (tp N T k))).1 0 33 = nI (tp N T k) := w_si_s _ _ _ _
    have hTa : TxW N T (w_si w 0 33 (nI (tp N T k))) := hT.s33 (by decide)
    have hle := tp_le (N := N) (T := T) k
    have hdig := p_isDigit' (G := G) hTa f33 (by omega)
    -- the class's symbol
    have sy7 := hC.2.2.1
    have nu8 := hC.2.2.2.1
    -- a fault on both sides, with code c
    have bad : ∀ (c : Nat) (r' : Int32), c ≤ 4 → ∀ (w1 : MS), FrW w w1 → w1.1 0 34 = 0 → (∃ q, w1.1 0 33 = nI q ∧ q ≤ 402) → (∀ wr1, s_X8_fail G (nI c) wr = some wr1 → wr1.1 0 9 ≠ 0 → s_X8_takeNumber G lo hi wr = some (-1, wr1)) → (∀ w2, p_X12_fails G (nI c) (nI (tp N T k)) w1 = some w2 → w2.1 0 34 ≠ 0 → p_X12_amount G lo hi w = some (r', w2)) → ∃ r r' wr' w' k' f', s_X8_takeNumber G lo hi wr = some (r, wr') ∧ p_X12_amount G lo hi w = some (r', w') ∧ Syn wl N T wr' w' k' f' ∧ FrC wr wr' ∧ FrW w w' ∧ ((0 : Int32) ≠ 0 → f' = 0) ∧ (f' = 0 → (0 : Int32) = 0 ∧ r = r' ∧ lo ≤ r ∧ r ≤ hi ∧ k' = k + 1 ∧ k < tK N T) ∧ (f' ≠ 0 → r = -1) := fun c r' hc w1 hF1 h1 ⟨q, h2, h3⟩ hcl hrf => by
      obtain ⟨wr1, b1, b2, b3, b4⟩ := q_fail (G := G) hN hK hC (nI c)
      obtain ⟨w2, d1, d2, d3, d4⟩ := p_fails' (G := G) h1 (nI c) (nI (tp N T k))
      rw [if_pos rfl] at b4 d4
      have hne := flt_ne (N := N) (T := T) (k := k) hN hc
      refine ⟨-1, r', wr1, w2, k, flt N T k (nI c), hcl wr1 b1 (by rw [b4.2.2.2.2]; exact hne), hrf w2 d1 (by rw [d4]; exact hne), ⟨b3, tx_C hX b2, b4, (hF1.tr d2).tx hT, d4, q, by rw [d3]; exact h2, ⟨h3, flt_FO hN hc⟩, fun z => absurd z hne⟩, b2, hF1.tr d2, fun z => absurd rfl z, fun z => absurd z hne, fun _ => rfl⟩
    by_cases hd : k < tK N T ∧ isD (T (tp N T k)) = true
    · have tk := tp_ok hd.1
      have es : wr.1 0 7 = 256 := by rw [sy7]; unfold syv; rw [if_pos tk.1, if_pos hd.2]
      have en : wr.1 0 8 = dv T (tp N T k) (rn isD T (tp N T k) (N - tp N T k)) := by rw [nu8]; unfold nuv; rw [if_pos ⟨tk.1, hd.2⟩]
      have hle2 := rn_le isD T (tp N T k) (N - tp N T k)
      generalize hR : rn isD T (tp N T k) (N - tp N T k) = R at en hle2
      have dl := fun b K => dig_loop (G := G) (T := T) (N := N) (tp N T k) b R hR tk.1 R 0 bN (w_si w 0 33 (nI (tp N T k))) hTa (Nat.zero_add _) (bN_gt (by omega)) (by rw [Nat.add_zero]; exact f33) K
      have e2 : w_si (w_si w 0 33 (nI (tp N T k))) 0 33 (nI (tp N T k + R)) = w_si w 0 33 (nI (tp N T k + R)) := by
        unfold w_si
        refine Prod.ext ?_ rfl
        funext r j
        show va_up (va_up w.1 0 (upd (w.1 0) 33 (nI (tp N T k)))) 0 (upd (va_up w.1 0 (upd (w.1 0) 33 (nI (tp N T k))) 0) 33 (nI (tp N T k + R))) r j = va_up w.1 0 (upd (w.1 0) 33 (nI (tp N T k + R))) r j
        unfold va_up upd
        by_cases z : r = 0
        · subst z; by_cases y : j = 33 <;> simp [y]
        · simp [z]
      have g33 : (w_si w 0 33 (nI (tp N T k + R))).1 0 33 = nI (tp N T k + R) := w_si_s _ _ _ _
      have g34 : (w_si w 0 33 (nI (tp N T k + R))).1 0 34 = 0 := by rw [w_si_j (by decide)]; exact hW.1
      have esub : nI (tp N T k + R) - nI (tp N T k) = nI R := by rw [pk_sub (by omega), Nat.add_sub_cancel_left]
      have dgt : p_X12_digits G 99999 (w_si w 0 33 (nI (tp N T k))) = (if (5 : Int32) < nI R then (ob (p_X12_fails G 1 (nI (tp N T k)) (w_si w 0 33 (nI (tp N T k + R)))) fun w17 => some (dv T (tp N T k) (min R 5), w17)) else if dv T (tp N T k) (min R 5) ≤ 99999 then some (dv T (tp N T k) (min R 5), w_si w 0 33 (nI (tp N T k + R))) else ob (p_X12_fails G 1 (nI (tp N T k)) (w_si w 0 33 (nI (tp N T k + R)))) fun w17 => some (dv T (tp N T k) (min R 5), w17)) := by
        unfold p_X12_digits
        rw [hdig, u_cw, if_pos (show tp N T k < N ∧ isD (T (tp N T k)) = true from ⟨tk.1, hd.2⟩), if_neg n10, f33, u_nn]
        refine (dl 99999 _).trans ?_
        rw [e2, u_nn, g33, esub]
      have amt : p_X12_amount G lo hi w = (cw (p_X12_digits G 99999 (w_si w 0 33 (nI (tp N T k)))) fun r14 w12 => (if (w12.1 0 34) = 0 then (cw (p_X12_in G r14.toInt64 lo.toInt64 hi.toInt64 w12) fun r7 w5 => if r7 = 0 then (ob (p_X12_fails G (1 : Int32) (nI (tp N T k)) w5) fun w9 => some (r14, w9)) else some (r14, w5)) else some (r14, w12))) := by
        unfold p_X12_amount
        rw [bl, u_ob, u_nn, u_nn, f34, if_pos rfl, f33]
      by_cases h5 : 5 < R
      · -- too many digits
        have e8 : wr.1 0 8 = -1 := by rw [en]; exact dv_big T _ h5
        refine bad 1 (dv T (tp N T k) (min R 5)) (by decide) (w_si w 0 33 (nI (tp N T k + R))) (FrW.s (Or.inl rfl)) g34 ⟨_, g33, by omega⟩ (fun wr1 h1 h2 => ?_) (fun w2 h1 h2 => ?_)
        · unfold s_X8_takeNumber
          rw [u_nn, if_pos es, u_nn, e8, if_pos (show (-1 : Int32) < lo by rw [I_lt]; have : (-1 : Int32).toInt = -1 := rfl; omega)]
          dsimp only
          rw [show s_X8_fail G (1 : Int32) wr = some wr1 from h1, u_ob, if_neg h2]
        · rw [amt, dgt, if_pos (show (5 : Int32) < nI R from nI_lt (a := 5) h5 (by omega)), show p_X12_fails G (1 : Int32) (nI (tp N T k)) (w_si w 0 33 (nI (tp N T k + R))) = some w2 from h1, u_ob, u_cw, if_neg h2]
      · have hmin : min R 5 = R := by omega
        obtain ⟨v, v1, v2⟩ := dv_n T (tp N T k) R (by omega) (fun j hj => rn_in isD T (tp N T k) (N - tp N T k) (tp N T k + j) (by omega) (by omega))
        have hv5 : v < 100000 := by
          have : 10 ^ R ≤ 10 ^ 5 := Nat.pow_le_pow_right (by decide) (by omega)
          omega
        rw [v2] at en
        rw [hmin, v2, if_neg (show ¬ (5 : Int32) < nI R from nI_nlt (a := 5) (by omega) (by omega)), if_pos (show nI v ≤ (99999 : Int32) from nI_le (b := 99999) (by omega) (by omega))] at dgt
        rw [dgt, u_cw, g34, if_pos rfl, p_in_i, u_cw] at amt
        by_cases hr : lo ≤ nI v ∧ nI v ≤ hi
        · -- a good number
          obtain ⟨wr1, b1, b2, b3, b4⟩ := adv_C (G := G) hN hK hC hd.1
          have te := tk_end hd.1
          rw [show ln N T (tp N T k) = R from by rw [ln_D hd.2, hR]] at te
          have tg := tk_gap hd.1
          rw [show ln N T (tp N T k) = R from by rw [ln_D hd.2, hR]] at tg
          have tl := tp_le (N := N) (T := T) (k + 1)
          rw [if_pos hr, if_neg n10] at amt
          refine ⟨nI v, nI v, wr1, w_si w 0 33 (nI (tp N T k + R)), k + 1, 0, ?_, amt, ⟨b3, tx_C hX b2, b4, hT.s33 (by decide), g34, tp N T k + R, g33, ⟨by omega, FO_0⟩, fun _ => ⟨te, tg⟩⟩, b2, FrW.s (Or.inl rfl), fun z => absurd rfl z, fun _ => ⟨rfl, rfl, hr.1, hr.2, rfl, hd.1⟩, fun z => absurd rfl z⟩
          unfold s_X8_takeNumber
          rw [u_nn, if_pos es, u_nn, en, if_neg (show ¬ nI v < lo by rw [I_lt]; have := hr.1; rw [I_le] at this; omega), if_pos hr.2]
          dsimp only
          rw [h0, if_pos rfl, en, u_nn, b1, u_ob]
        · rw [if_neg hr, if_pos rfl] at amt
          refine bad 1 (nI v) (by decide) (w_si w 0 33 (nI (tp N T k + R))) (FrW.s (Or.inl rfl)) g34 ⟨_, g33, by omega⟩ (fun wr1 h1 h2 => ?_) (fun w2 h1 h2 => ?_)
          · unfold s_X8_takeNumber
            rw [u_nn, if_pos es, u_nn, en]
            have fl : s_X8_fail G (1 : Int32) wr = some wr1 := h1
            by_cases y : nI v < lo
            · rw [if_pos y]; dsimp only; rw [fl, u_ob, if_neg h2]
            · rw [if_neg y, if_neg (fun q => hr ⟨by rw [I_lt] at y; rw [I_le]; omega, q⟩)]; dsimp only; rw [fl, u_ob, if_neg h2]
          · rw [amt, show p_X12_fails G (1 : Int32) (nI (tp N T k)) (w_si w 0 33 (nI (tp N T k + R))) = some w2 from h1, u_ob]
    · -- no number
      have es : ¬ wr.1 0 7 = 256 := fun q => by
        rw [sy7] at q
        unfold syv at q
        by_cases z : tp N T k < N
        · have hk2 := (tp_K hkK).mp z
          rw [if_pos z, if_neg (fun y => hd ⟨hk2, y⟩)] at q
          have hb := (hT.2.2 _ z).2.1
          by_cases y : isL (T (tp N T k)) = true
          · rw [if_pos y] at q
            unfold wcd at q
            cases hff : ff (fun k_1 => wd N T (wl.getD k_1 []) (tp N T k)) wl.length 0 with
            | none => rw [hff] at q; exact absurd q (by decide)
            | some j =>
              rw [hff] at q
              have q' : nI (300 + j) = (256 : Int32) := q
              have hj := ff_some hff
              have := (nI_eq (b := 256) (by omega) (by omega)).mp q'
              omega
          · rw [if_neg y] at q
            by_cases u : (T (tp N T k) = 60 ∨ T (tp N T k) = 62) ∧ tp N T k + 1 < N ∧ T (tp N T k + 1) = 61
            · rw [if_pos u] at q
              by_cases v : T (tp N T k) = 60
              · rw [if_pos v] at q; exact absurd q (by decide)
              · rw [if_neg v] at q; exact absurd q (by decide)
            · rw [if_neg u] at q
              have := (nI_eq (b := 256) (by omega) (by omega)).mp q
              omega
        · rw [if_neg z] at q; exact absurd q (by decide)
      have nd : ¬ (tp N T k < N ∧ isD (T (tp N T k)) = true) := fun q => hd ⟨(tp_K hkK).mp q.1, q.2⟩
      refine bad 0 0 (by decide) (w_si w 0 33 (nI (tp N T k))) (FrW.s (Or.inl rfl)) f34 ⟨_, f33, by omega⟩ (fun wr1 h1 h2 => ?_) (fun w2 h1 h2 => ?_)
      · unfold s_X8_takeNumber
        rw [u_nn, if_neg es, show s_X8_fail G (0 : Int32) wr = some wr1 from h1, u_ob]
        dsimp only
        rw [if_neg h2]
      · unfold p_X12_amount p_X12_digits
        rw [bl, u_ob, u_nn, u_nn, f34, if_pos rfl, hdig, u_cw, if_neg nd, if_pos rfl, f33, show p_X12_fails G (0 : Int32) (nI (tp N T k)) (w_si w 0 33 (nI (tp N T k))) = some w2 from h1, u_ob, u_cw]
        dsimp only
        rw [if_neg h2]
end
