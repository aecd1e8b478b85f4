/-! PURE 99e: the class cuts a text into tokens. -/
section
variable {G : GG} {N : Nat} {T : Nat → Nat} {wr wr0 wr' : MS} {wl : List (List Nat)} {x i k p a : Nat}
def nup (N : Nat) (T : Nat → Nat) (p k : Nat) : Int32 := if isD (T (enu (stt T) N k)) = true then dv T (enu (stt T) N k) (min (p - enu (stt T) N k) (rn isD T (enu (stt T) N k) (N - enu (stt T) N k))) else 0
/-- the places before p have been cut -/
def Cut (wl : List (List Nat)) (N : Nat) (T : Nat → Nat) (wr0 : MS) (p : Nat) (wr : MS) : Prop := wr.1 0 5 = nI (rowC (stt T) p) - 1 ∧ (∀ k, k < rowC (stt T) p → wr.1 3 k = nI (enu (stt T) N k) ∧ wr.1 4 k = nup N T p k ∧ ((isD (T (enu (stt T) N k)) = true ∨ k + 1 < rowC (stt T) p ∨ (p < N → cont T p = false)) → wr.1 2 k = syv wl N T (enu (stt T) N k))) ∧ (∀ j, j ≠ 5 → wr.1 0 j = wr0.1 0 j) ∧ ∀ r, r = 1 ∨ 5 ≤ r → wr.1 r = wr0.1 r
theorem ln_D (h : isD (T i) = true) : ln N T i = rn isD T i (N - i) := by unfold ln; rw [if_pos h]
theorem rowK (hp : p ≤ N) : rowC (stt T) p ≤ tK N T := by
  have := rowC_mono (stt T) (k := p) (d := N - p)
  rw [show p + (N - p) = N by omega] at this
  exact this
theorem enu_tp (hp : p ≤ N) (hk : k < rowC (stt T) p) : enu (stt T) N k = tp N T k ∧ k < tK N T ∧ tp N T k < p := by
  have h1 := rowK (T := T) hp
  have hk2 : k < tK N T := by omega
  have e : enu (stt T) N k = tp N T k := by unfold tp; rw [if_pos hk2]
  refine ⟨e, hk2, ?_⟩
  have a := tp_ok hk2
  rcases Nat.lt_or_ge (tp N T k) p with z | z
  · exact z
  · have := rowC_mono (stt T) (k := p) (d := tp N T k - p)
    rw [show p + (tp N T k - p) = tp N T k by omega] at this
    omega
theorem old_le (hp : p ≤ N) (hk : k < rowC (stt T) p) (h : k + 1 < rowC (stt T) p ∨ (p < N → cont T p = false)) : enu (stt T) N k + ln N T (enu (stt T) N k) ≤ p := by
  obtain ⟨e1, e2, e3⟩ := enu_tp hp hk
  rw [e1]
  rcases h with h | h
  · have h1 := tk_end e2
    have h2 := (enu_tp hp h).2.2
    omega
  · rcases Nat.lt_or_ge p (tp N T k + ln N T (tp N T k)) with z | z
    · have h1 := ln_le (N := N) (T := T) (i := tp N T k) (by omega)
      have h2 := ln_in (N := N) (T := T) (i := tp N T k) (j := p) (by omega) e3 z
      rw [h (by omega)] at h2; cases h2
    · exact z
theorem nup_old (hp : p ≤ N) (hk : k < rowC (stt T) p) (h : k + 1 < rowC (stt T) p ∨ (p < N → cont T p = false)) : nup N T (p + 1) k = nup N T p k := by
  unfold nup
  by_cases z : isD (T (enu (stt T) N k)) = true
  · rw [if_pos z, if_pos z]
    have h1 := old_le hp hk h
    rw [ln_D z] at h1
    congr 1
    omega
  · rw [if_neg z, if_neg z]
theorem cont_tok (hp : p < N) (h : cont T p = true) : ∃ k, k + 1 = rowC (stt T) p ∧ enu (stt T) N k < p ∧ p < enu (stt T) N k + ln N T (enu (stt T) N k) := by
  have nb : ∀ q, p = q + 1 → T q ≠ 32 := fun q e z => by
    subst e
    rw [cont_no (by rw [z]; decide) (by rw [z]; decide) (by rw [z]; decide)] at h; cases h
  obtain ⟨q, hq⟩ : ∃ q, p = q + 1 := by
    cases p with
    | zero => cases h
    | succ q => exact ⟨q, rfl⟩
  rcases Nat.eq_zero_or_pos (rowC (stt T) p) with z | z
  · exfalso
    have h0 : q < tp N T 0 := by
      by_cases y : 0 < tK N T
      · have a := tp_ok y
        rcases Nat.lt_or_ge q (tp N T 0) with u | u
        · exact u
        · have := rowC_lt (stt T) (show tp N T 0 < p by omega) a.2.1
          omega
      · have : tp N T 0 = N := by unfold tp; rw [if_neg y]
        omega
    exact nb q hq (tk_first q h0)
  · obtain ⟨k, hk⟩ : ∃ k, k + 1 = rowC (stt T) p := ⟨rowC (stt T) p - 1, by omega⟩
    obtain ⟨e1, e2, e3⟩ := enu_tp (N := N) (T := T) (p := p) (k := k) (by omega) (by omega)
    refine ⟨k, hk, by rw [e1]; exact e3, ?_⟩
    rw [e1]
    rcases Nat.lt_or_ge p (tp N T k + ln N T (tp N T k)) with y | y
    · exact y
    · exfalso
      have hnx : p ≤ tp N T (k + 1) := by
        by_cases u : k + 1 < tK N T
        · have a := tp_ok u
          rcases Nat.lt_or_ge (tp N T (k + 1)) p with v | v
          · have := rowC_lt (stt T) v a.2.1
            omega
          · exact v
        · have : tp N T (k + 1) = N := by unfold tp; rw [if_neg u]
          omega
      rcases Nat.eq_or_lt_of_le y with u | u
      · have := ln_end (N := N) (T := T) (i := tp N T k) (by omega) (by omega)
        rw [u, h] at this; cases this
      · exact nb q hq (tk_gap e2 q (by omega) (by omega))
theorem q_put (h5 : wr.1 0 5 = nI a - 1) (ha : a ≤ 400) (v1 v2 : Int32) : s_X8_put G v1 v2 wr = some (w_si (w_si (w_si (w_si wr 0 5 (nI a)) 2 a v1) 3 a v2) 4 a 0) := by
  have e1 : nI a - 1 + 1 = nI a := Int32.sub_add_cancel _ _
  have lt : ¬ (400 : Int32) ≤ nI a - 1 := by
    cases a with
    | zero => decide
    | succ a => rw [nI_pred]; exact nI_ge (b := 400) (by omega) (by omega)
  have xa : ixn 401 (nI a) = true := u_ixn (by omega) (by decide)
  have ca : (nI a).toNatClampNeg = a := nI_clamp (by omega)
  unfold s_X8_put
  rw [h5, if_neg lt, e1, u_nn, w_si_s, u_ck xa, ca, u_nn, w_si_r (by decide), w_si_s, u_ck xa, ca, u_nn, w_si_r (by decide), w_si_r (by decide), w_si_s, u_ck xa, ca, u_nn]
/-- a new token -/
theorem Cut.new (hc : Cut wl N T wr0 p wr) (hp : p < N) (hs : stt T p = true) {v1 v4 : Int32} (h4 : v4 = nup N T (p + 1) (rowC (stt T) p)) (h2 : (isD (T p) = true ∨ (p + 1 < N → cont T (p + 1) = false)) → v1 = syv wl N T p) {wr' : MS} (e5 : wr'.1 0 5 = nI (rowC (stt T) p)) (e0 : ∀ j, j ≠ 5 → wr'.1 0 j = wr.1 0 j) (er : ∀ r, r = 1 ∨ 5 ≤ r → wr'.1 r = wr.1 r) (e2 : ∀ j, wr'.1 2 j = if j = rowC (stt T) p then v1 else wr.1 2 j) (e3 : ∀ j, wr'.1 3 j = if j = rowC (stt T) p then nI p else wr.1 3 j) (e4 : ∀ j, wr'.1 4 j = if j = rowC (stt T) p then v4 else wr.1 4 j) : Cut wl N T wr0 (p + 1) wr' := by
  obtain ⟨c1, c2, c3, c4⟩ := hc
  have ea := enu_at (stt T) hp hs
  have hn := (stt_ok hs).2
  have er' : rowC (stt T) (p + 1) = rowC (stt T) p + 1 := by rw [rowC_s, if_pos hs]
  refine ⟨by rw [e5, er', nI_pred], fun k hk => ?_, fun j hj => by rw [e0 j hj]; exact c3 j hj, fun r hr => by rw [er r hr]; exact c4 r hr⟩
  rw [er'] at hk
  by_cases z : k = rowC (stt T) p
  · subst z
    rw [e3, e4, e2, if_pos rfl, if_pos rfl, if_pos rfl, ea]
    refine ⟨rfl, h4, fun q => h2 ?_⟩
    rcases q with q | q | q
    · exact Or.inl q
    · rw [er'] at q; omega
    · exact Or.inr q
  · have hk' : k < rowC (stt T) p := by omega
    obtain ⟨d1, d2, d3⟩ := c2 k hk'
    rw [e3, e4, e2, if_neg z, if_neg z, if_neg z]
    exact ⟨d1, by rw [d2, nup_old (by omega) hk' (Or.inr (fun _ => hn))], fun _ => d3 (Or.inr (Or.inr (fun _ => hn)))⟩
/-- no new token, and nothing changes -/
theorem Cut.blank (hc : Cut wl N T wr0 p wr) (hp : p < N) (h32 : T p = 32) : Cut wl N T wr0 (p + 1) wr := by
  obtain ⟨c1, c2, c3, c4⟩ := hc
  have hs : stt T p = false := by unfold stt; rw [decide_eq_true h32]; rfl
  have hn : cont T p = false := by
    cases p with
    | zero => rfl
    | succ q =>
      show ((isD (T q) && isD (T (q + 1))) || ((isL (T q) && isL (T (q + 1))) || (decide (T q = 60 ∨ T q = 62) && decide (T (q + 1) = 61)))) = false
      rw [h32]; simp [isD, isL]
  have er' : rowC (stt T) (p + 1) = rowC (stt T) p := by rw [rowC_s, if_neg (by rw [hs]; decide), Nat.add_zero]
  refine ⟨by rw [er']; exact c1, fun k hk => ?_, c3, c4⟩
  rw [er'] at hk ⊢
  obtain ⟨d1, d2, d3⟩ := c2 k hk
  exact ⟨d1, by rw [d2, nup_old (by omega) hk (Or.inr (fun _ => hn))], fun _ => d3 (Or.inr (Or.inr (fun _ => hn)))⟩
/-- the token goes on -/
theorem Cut.on (hc : Cut wl N T wr0 p wr) (hp : p < N) (hn : cont T p = true) {v2 v4 : Int32} (hk : k + 1 = rowC (stt T) p) (h4 : v4 = nup N T (p + 1) k) (h2 : (isD (T (enu (stt T) N k)) = true ∨ (p + 1 < N → cont T (p + 1) = false)) → v2 = syv wl N T (enu (stt T) N k)) {wr' : MS} (e0 : ∀ j, wr'.1 0 j = wr.1 0 j) (er : ∀ r, r = 1 ∨ r = 3 ∨ 5 ≤ r → wr'.1 r = wr.1 r) (e2 : ∀ j, wr'.1 2 j = if j = k then v2 else wr.1 2 j) (e4 : ∀ j, wr'.1 4 j = if j = k then v4 else wr.1 4 j) : Cut wl N T wr0 (p + 1) wr' := by
  obtain ⟨c1, c2, c3, c4⟩ := hc
  have hs : stt T p = false := by unfold stt; rw [hn]; simp
  have er' : rowC (stt T) (p + 1) = rowC (stt T) p := by rw [rowC_s, if_neg (by rw [hs]; decide), Nat.add_zero]
  refine ⟨by rw [er', e0]; exact c1, fun q hq => ?_, fun j hj => by rw [e0 j]; exact c3 j hj, fun r hr => by rw [er r (by omega)]; exact c4 r hr⟩
  rw [er'] at hq ⊢
  obtain ⟨d1, d2, d3⟩ := c2 q hq
  rw [er 3 (by omega), e2, e4]
  by_cases z : q = k
  · subst z
    rw [if_pos rfl, if_pos rfl]
    refine ⟨d1, h4, fun u => h2 ?_⟩
    rcases u with u | u | u
    · exact Or.inl u
    · omega
    · exact Or.inr u
  · rw [if_neg z, if_neg z]
    exact ⟨d1, by rw [d2, nup_old (by omega) hq (Or.inl (by omega))], fun _ => d3 (Or.inr (Or.inl (by omega)))⟩
theorem dv_s (T : Nat → Nat) (i m : Nat) : dv T i (m + 1) = if m < 5 then (dv T i m * 10 + nI (T (i + m))) - 48 else -1 := rfl
theorem bB_e (hp : p < N) : ∀ q, p = q + 1 → bB N T p = T q := fun q e => by
  subst e
  show bA N T q = T q
  unfold bA; rw [if_pos (by omega)]
theorem cutp_step (hG : GI G) (hW : WT x wl) (hT : TxC N T wr0) (hp : p < N) (hc : Cut wl N T wr0 p wr) : ∃ wr', s_X8_cutAt G (nI p) (G.2.2.2.1 x) wr = some wr' ∧ Cut wl N T wr0 (p + 1) wr' := by
  have hN := hT.1
  have hTw : TxC N T wr := ⟨hN, by rw [hc.2.2.1 1 (by decide)]; exact hT.2.1, fun i hi => by rw [hc.2.2.2 1 (by omega)]; exact hT.2.2 i hi⟩
  have ha : rowC (stt T) p ≤ p := rowC_le _ _
  have hb1 := bA_lt hTw p
  have hb2 := bB_lt hTw p
  have hb3 := bA_lt hTw (p + 1)
  have eA : bA N T p = T p := by unfold bA; rw [if_pos hp]
  have h256 := (hT.2.2 p hp).2
  have c1 := hc.1
  unfold s_X8_cutAt
  rw [byte_at hTw (by omega), u_cw, byte_bf hTw (by omega), u_cw, eA, q_isD (by omega), u_cw]
  -- what goes on, by the sign
  have contD : isD (T p) = true → cont T p = isD (bB N T p) := fun hd => by
    cases p with
    | zero => rfl
    | succ q =>
      rw [bB_e hp q rfl]
      show ((isD (T q) && isD (T (q + 1))) || ((isL (T q) && isL (T (q + 1))) || (decide (T q = 60 ∨ T q = 62) && decide (T (q + 1) = 61)))) = _
      rw [hd, isD_L hd, decide_eq_false (p := T (q + 1) = 61) (fun z => by have := D32 hd; omega)]; simp
  have contL : isL (T p) = true → cont T p = isL (bB N T p) := fun hl => by
    cases p with
    | zero => rfl
    | succ q =>
      rw [bB_e hp q rfl]
      show ((isD (T q) && isD (T (q + 1))) || ((isL (T q) && isL (T (q + 1))) || (decide (T q = 60 ∨ T q = 62) && decide (T (q + 1) = 61)))) = _
      have hd : isD (T (q + 1)) = false := by
        cases h : isD (T (q + 1))
        · rfl
        · rw [isD_L h] at hl; cases hl
      rw [hl, hd, decide_eq_false (p := T (q + 1) = 61) (fun z => by have := L32 hl; omega)]; simp
  have contO : isD (T p) = false → isL (T p) = false → cont T p = (decide (T p = 61) && decide (bB N T p = 60 ∨ bB N T p = 62)) := fun hd hl => by
    cases p with
    | zero => show false = (decide (T 0 = 61) && decide ((257 : Nat) = 60 ∨ (257 : Nat) = 62)); simp
    | succ q =>
      rw [bB_e hp q rfl]
      show ((isD (T q) && isD (T (q + 1))) || ((isL (T q) && isL (T (q + 1))) || (decide (T q = 60 ∨ T q = 62) && decide (T (q + 1) = 61)))) = _
      rw [hd, hl]; simp [Bool.and_comm]
  by_cases hd : isD (T p) = true
  · -- a digit
    rw [if_pos hd, if_neg n10, q_isD (by omega), u_cw, u_nn, ← contD hd]
    have hne : T p ≠ 32 := fun z => by have := D32 hd; omega
    by_cases hcn : cont T p = true
    · obtain ⟨k, hk, hk1, hk2⟩ := cont_tok hp hcn
      have dk : isD (T (enu (stt T) N k)) = true := by
        cases h : isD (T (enu (stt T) N k)) with
        | true => rfl
        | false =>
          exfalso
          unfold ln at hk2
          rw [h] at hk2
          by_cases y : isL (T (enu (stt T) N k)) = true
          · rw [if_neg (by decide), if_pos y] at hk2
            have := rn_in isL T _ _ p (by omega) hk2
            rw [isD_L hd] at this; cases this
          · rw [if_neg (by decide), if_neg y] at hk2
            by_cases u : (T (enu (stt T) N k) = 60 ∨ T (enu (stt T) N k) = 62) ∧ enu (stt T) N k + 1 < N ∧ T (enu (stt T) N k + 1) = 61
            · rw [if_pos u] at hk2
              have e : p = enu (stt T) N k + 1 := by omega
              rw [e, u.2.2] at hd; cases hd
            · rw [if_neg u] at hk2; omega
      rw [ln_D dk] at hk2
      obtain ⟨d1, d2, -⟩ := hc.2.1 k (by omega)
      have e5 : wr.1 0 5 = nI k := by rw [c1, ← hk, nI_pred]
      have xk : ixn 401 (nI k) = true := u_ixn (by omega) (by decide)
      have ckk : (nI k).toNatClampNeg = k := nI_clamp (by omega)
      have esub : nI p - nI (enu (stt T) N k) = nI (p - enu (stt T) N k) := pk_sub (by omega)
      have dval : wr.1 4 k = dv T (enu (stt T) N k) (p - enu (stt T) N k) := by
        rw [d2]; unfold nup; rw [if_pos dk, show min (p - enu (stt T) N k) (rn isD T (enu (stt T) N k) (N - enu (stt T) N k)) = p - enu (stt T) N k by omega]
      have nval : nup N T (p + 1) k = dv T (enu (stt T) N k) (p - enu (stt T) N k + 1) := by
        unfold nup; rw [if_pos dk, show min (p + 1 - enu (stt T) N k) (rn isD T (enu (stt T) N k) (N - enu (stt T) N k)) = p - enu (stt T) N k + 1 by omega]
      refine ⟨w_si wr 4 k (nup N T (p + 1) k), ?_, hc.on hp hcn (v2 := wr.1 2 k) (v4 := nup N T (p + 1) k) hk rfl (fun _ => (hc.2.1 k (by omega)).2.2 (Or.inl dk)) (fun j => by rw [w_si_r (by decide)]) (fun r hr => w_si_r (by omega)) (fun j => ?_) (fun j => by rw [w_si_e]; by_cases z : j = k <;> simp [z])⟩
      · rw [hcn, if_neg (by decide)]
        dsimp only
        rw [e5, u_ck xk, ckk, u_nn, d1, esub]
        by_cases z : 5 ≤ p - enu (stt T) N k
        · rw [if_pos (show (5 : Int32) ≤ _ from nI_le (a := 5) z (by omega))]
          dsimp only
          rw [u_ck xk, u_nn, nval, dv_s, if_neg (by omega)]
        · rw [if_neg (show ¬ (5 : Int32) ≤ _ from nI_ge (b := 5) (by omega) (by omega)), u_ck xk]
          dsimp only
          rw [u_ck xk, u_nn, nval, dv_s, if_pos (by omega), dval, show enu (stt T) N k + (p - enu (stt T) N k) = p by omega]
      · rw [w_si_r (by decide)]; by_cases z : j = k <;> simp [z]
    · have hcn' : cont T p = false := by simpa using hcn
      have hs : stt T p = true := by unfold stt; rw [hcn', decide_eq_false hne]; rfl
      have hr1 := rn_pos (p := isD) hd hp
      have ea := enu_at (stt T) hp hs
      have xk : ixn 401 (nI (rowC (stt T) p)) = true := u_ixn (by omega) (by decide)
      have ckk : (nI (rowC (stt T) p)).toNatClampNeg = rowC (stt T) p := nI_clamp (by omega)
      have nval : nup N T (p + 1) (rowC (stt T) p) = (0 * 10 + nI (T p)) - 48 := by
        unfold nup; rw [ea, if_pos hd, show min (p + 1 - p) (rn isD T p (N - p)) = 0 + 1 by omega, dv_s, if_pos (by decide)]; rfl
      have eself : nI p - nI p = 0 := Int32.sub_self _
      refine ⟨w_si (w_si (w_si (w_si (w_si wr 0 5 (nI (rowC (stt T) p))) 2 (rowC (stt T) p) 256) 3 (rowC (stt T) p) (nI p)) 4 (rowC (stt T) p) 0) 4 (rowC (stt T) p) ((0 * 10 + nI (T p)) - 48), ?_, hc.new hp hs (v1 := 256) (v4 := (0 * 10 + nI (T p)) - 48) nval.symm (fun _ => by unfold syv; rw [if_pos hp, if_pos hd]) ?_ (fun j hj => ?_) (fun r hr => ?_) (fun j => ?_) (fun j => ?_) (fun j => ?_)⟩
      · rw [hcn', if_pos (show (if false = true then (1 : Int32) else 0) = 0 from rfl), q_put c1 (by omega), u_ob]
        dsimp only
        have f5 : (w_si (w_si (w_si (w_si wr 0 5 (nI (rowC (stt T) p))) 2 (rowC (stt T) p) 256) 3 (rowC (stt T) p) (nI p)) 4 (rowC (stt T) p) 0).1 0 5 = nI (rowC (stt T) p) := by rw [w_si_r (by decide), w_si_r (by decide), w_si_r (by decide), w_si_s]
        have f3 : (w_si (w_si (w_si (w_si wr 0 5 (nI (rowC (stt T) p))) 2 (rowC (stt T) p) 256) 3 (rowC (stt T) p) (nI p)) 4 (rowC (stt T) p) 0).1 3 (rowC (stt T) p) = nI p := by rw [w_si_r (by decide), w_si_s]
        have f4 : (w_si (w_si (w_si (w_si wr 0 5 (nI (rowC (stt T) p))) 2 (rowC (stt T) p) 256) 3 (rowC (stt T) p) (nI p)) 4 (rowC (stt T) p) 0).1 4 (rowC (stt T) p) = 0 := w_si_s _ _ _ _
        rw [f5, u_ck xk, ckk, u_nn, f3, eself, if_neg (by decide), u_ck xk]
        dsimp only
        rw [u_ck xk, u_nn, f4]
      · rw [w_si_r (by decide), w_si_r (by decide), w_si_r (by decide), w_si_r (by decide), w_si_s]
      · rw [w_si_r (by decide), w_si_r (by decide), w_si_r (by decide), w_si_r (by decide), w_si_j hj]
      · rw [w_si_r (by omega), w_si_r (by omega), w_si_r (by omega), w_si_r (by omega), w_si_r (by omega)]
      · rw [w_si_r (by decide), w_si_r (by decide), w_si_r (by decide), w_si_e, w_si_r (by decide)]; by_cases z : j = rowC (stt T) p <;> simp [z]
      · rw [w_si_r (by decide), w_si_r (by decide), w_si_e, w_si_r (by decide), w_si_r (by decide)]; by_cases z : j = rowC (stt T) p <;> simp [z]
      · rw [w_si_e, w_si_e, w_si_r (by decide), w_si_r (by decide), w_si_r (by decide)]; by_cases z : j = rowC (stt T) p <;> simp [z]
  · have hd' : isD (T p) = false := by simpa using hd
    rw [if_neg hd, if_pos rfl, q_isL (by omega), u_cw]
    by_cases hl : isL (T p) = true
    · -- a letter
      rw [if_pos hl, if_neg n10, q_isL (by omega), u_cw, u_nn, ← contL hl]
      have hne : T p ≠ 32 := fun z => by have := L32 hl; omega
      have ct1 : p + 1 < N → cont T (p + 1) = isL (T (p + 1)) := fun h1 => by
        show ((isD (T p) && isD (T (p + 1))) || ((isL (T p) && isL (T (p + 1))) || (decide (T p = 60 ∨ T p = 62) && decide (T (p + 1) = 61)))) = _
        rw [hd', hl, decide_eq_false (fun z => by have := L32 hl; omega)]; simp
      have eA1 : isL (bA N T (p + 1)) = true ↔ p + 1 < N ∧ isL (T (p + 1)) = true := by
        unfold bA
        by_cases z : p + 1 < N
        · rw [if_pos z]; exact ⟨fun h => ⟨z, h⟩, fun h => h.2⟩
        · rw [if_neg z]; exact ⟨fun h => (by cases h), fun h => absurd h.1 z⟩
      -- the tail of a letter: wr2 holds the token k that began at i
      have tail : ∀ (wr2 : MS) (k i : Nat), k ≤ 400 → i ≤ p → TxC N T wr2 → wr2.1 0 5 = nI k → wr2.1 3 k = nI i → (∀ j, i ≤ j → j ≤ p → isL (T j) = true) → (cw (s_X8_byteAt G (nI p + (1 : Int32)) wr2) fun r29 w27 => cw (s_X8_isLetter G r29 w27) fun r32 w30 => if r32 = 0 then (ck (ixn 401 (w30.1 0 5) = true) <| cw (s_X8_wordIn G (G.2.2.2.1 x) (w30.1 3 (w30.1 0 5).toNatClampNeg) (nI p + (1 : Int32)) w30) fun r37 w35 => ck (ixn 401 (w30.1 0 5) = true) <| nn (w_si w35 2 (w30.1 0 5).toNatClampNeg r37) fun w39 => some w39) else some w30) = some (if p + 1 < N ∧ isL (T (p + 1)) = true then wr2 else w_si wr2 2 k (wcd wl N T i)) := fun wr2 k i hk hi hTw2 h5 h3 hall => by
        have xk : ixn 401 (nI k) = true := u_ixn (by omega) (by decide)
        have ckk : (nI k).toNatClampNeg = k := nI_clamp (by omega)
        rw [nI_1, byte_at hTw2 (by omega), u_cw, q_isL (by omega), u_cw]
        by_cases z : isL (bA N T (p + 1)) = true
        · rw [if_pos z, if_neg n10, if_pos (eA1.mp z)]
        · have z2 : ¬ (p + 1 < N ∧ isL (T (p + 1)) = true) := fun q => z (eA1.mpr q)
          rw [if_neg z, if_pos rfl, if_neg z2, h5, u_ck xk, ckk, h3, q_wordIn hG hW hTw2 (by omega) (by omega) (fun j q1 q2 => hall j q1 (by omega)) (fun h1 => by
            cases h : isL (T (p + 1)) with
            | false => rfl
            | true => exact absurd ⟨h1, h⟩ z2), u_cw, u_ck xk, u_nn]
      by_cases hcn : cont T p = true
      · obtain ⟨k, hk, hk1, hk2⟩ := cont_tok hp hcn
        have lk : isL (T (enu (stt T) N k)) = true ∧ isD (T (enu (stt T) N k)) = false := by
          cases hD : isD (T (enu (stt T) N k)) with
          | true =>
            rw [ln_D hD] at hk2
            have := rn_in isD T _ _ p (by omega) hk2
            rw [hd'] at this; cases this
          | false =>
            refine ⟨?_, rfl⟩
            cases h : isL (T (enu (stt T) N k)) with
            | true => rfl
            | false =>
              exfalso
              unfold ln at hk2
              rw [hD, h, if_neg (by decide), if_neg (by decide)] at hk2
              by_cases u : (T (enu (stt T) N k) = 60 ∨ T (enu (stt T) N k) = 62) ∧ enu (stt T) N k + 1 < N ∧ T (enu (stt T) N k + 1) = 61
              · rw [if_pos u] at hk2
                have e : p = enu (stt T) N k + 1 := by omega
                rw [e, u.2.2] at hl; cases hl
              · rw [if_neg u] at hk2; omega
        have hk3 : p < enu (stt T) N k + rn isL T (enu (stt T) N k) (N - enu (stt T) N k) := by
          unfold ln at hk2; rw [lk.2, if_neg (by decide), if_pos lk.1] at hk2; exact hk2
        obtain ⟨d1, d2, -⟩ := hc.2.1 k (by omega)
        have tl := tail wr k (enu (stt T) N k) (by omega) (by omega) hTw (by rw [c1, ← hk, nI_pred]) d1 (fun j q1 q2 => rn_in isL T _ (N - enu (stt T) N k) j q1 (by omega))
        have n0 : nup N T (p + 1) k = 0 := by unfold nup; rw [if_neg (by rw [lk.2]; decide)]
        have n1 : wr.1 4 k = 0 := by rw [d2]; unfold nup; rw [if_neg (by rw [lk.2]; decide)]
        rw [hcn, if_neg (by decide)]
        dsimp only
        rw [tl]
        refine ⟨_, rfl, ?_⟩
        by_cases z : p + 1 < N ∧ isL (T (p + 1)) = true
        · rw [if_pos z]
          refine hc.on hp hcn (v2 := wr.1 2 k) (v4 := wr.1 4 k) hk (by rw [n0, n1]) (fun q => ?_) (fun _ => rfl) (fun _ _ => rfl) (fun j => by by_cases y : j = k <;> simp [y]) (fun j => by by_cases y : j = k <;> simp [y])
          rcases q with q | q
          · rw [lk.2] at q; cases q
          · have := q z.1; rw [ct1 z.1, z.2] at this; cases this
        · rw [if_neg z]
          refine hc.on hp hcn (v2 := wcd wl N T (enu (stt T) N k)) (v4 := wr.1 4 k) hk (by rw [n0, n1]) (fun _ => ?_) (fun j => by rw [w_si_r (by decide)]) (fun r hr => w_si_r (by omega)) (fun j => by rw [w_si_e]; by_cases y : j = k <;> simp [y]) (fun j => by rw [w_si_r (by decide)]; by_cases y : j = k <;> simp [y])
          unfold syv
          rw [if_pos (by omega), lk.2, if_neg (by decide), if_pos lk.1]
      · have hcn' : cont T p = false := by simpa using hcn
        have hs : stt T p = true := by unfold stt; rw [hcn', decide_eq_false hne]; rfl
        have ea := enu_at (stt T) hp hs
        have n0 : nup N T (p + 1) (rowC (stt T) p) = 0 := by unfold nup; rw [ea, if_neg (by rw [hd']; decide)]
        have f5 : (w_si (w_si (w_si (w_si wr 0 5 (nI (rowC (stt T) p))) 2 (rowC (stt T) p) 258) 3 (rowC (stt T) p) (nI p)) 4 (rowC (stt T) p) 0).1 0 5 = nI (rowC (stt T) p) := by rw [w_si_r (by decide), w_si_r (by decide), w_si_r (by decide), w_si_s]
        have f3 : (w_si (w_si (w_si (w_si wr 0 5 (nI (rowC (stt T) p))) 2 (rowC (stt T) p) 258) 3 (rowC (stt T) p) (nI p)) 4 (rowC (stt T) p) 0).1 3 (rowC (stt T) p) = nI p := by rw [w_si_r (by decide), w_si_s]
        have hTw2 : TxC N T (w_si (w_si (w_si (w_si wr 0 5 (nI (rowC (stt T) p))) 2 (rowC (stt T) p) 258) 3 (rowC (stt T) p) (nI p)) 4 (rowC (stt T) p) 0) := ⟨hN, by rw [w_si_r (by decide), w_si_r (by decide), w_si_r (by decide), w_si_j (by decide)]; exact hTw.2.1, fun i hi => by rw [w_si_r (by decide), w_si_r (by decide), w_si_r (by decide), w_si_r (by decide)]; exact hTw.2.2 i hi⟩
        have tl := tail _ (rowC (stt T) p) p (by omega) (Nat.le_refl _) hTw2 f5 f3 (fun j q1 q2 => by rw [show j = p by omega]; exact hl)
        rw [hcn', if_pos (show (if false = true then (1 : Int32) else 0) = 0 from rfl), q_put c1 (by omega), u_ob]
        dsimp only
        rw [tl]
        refine ⟨_, rfl, ?_⟩
        by_cases z : p + 1 < N ∧ isL (T (p + 1)) = true
        · rw [if_pos z]
          refine hc.new hp hs (v1 := 258) (v4 := 0) n0.symm (fun q => ?_) f5 (fun j hj => ?_) (fun r hr => ?_) (fun j => ?_) (fun j => ?_) (fun j => ?_)
          · rcases q with q | q
            · rw [hd'] at q; cases q
            · have := q z.1; rw [ct1 z.1, z.2] at this; cases this
          · rw [w_si_r (by decide), w_si_r (by decide), w_si_r (by decide), w_si_j hj]
          · rw [w_si_r (by omega), w_si_r (by omega), w_si_r (by omega), w_si_r (by omega)]
          · rw [w_si_r (by decide), w_si_r (by decide), w_si_e, w_si_r (by decide)]; by_cases y : j = rowC (stt T) p <;> simp [y]
          · rw [w_si_r (by decide), w_si_e, w_si_r (by decide), w_si_r (by decide)]; by_cases y : j = rowC (stt T) p <;> simp [y]
          · rw [w_si_e, w_si_r (by decide), w_si_r (by decide), w_si_r (by decide)]; by_cases y : j = rowC (stt T) p <;> simp [y]
        · rw [if_neg z]
          refine hc.new hp hs (v1 := wcd wl N T p) (v4 := 0) n0.symm (fun _ => ?_) (by rw [w_si_r (by decide)]; exact f5) (fun j hj => ?_) (fun r hr => ?_) (fun j => ?_) (fun j => ?_) (fun j => ?_)
          · unfold syv; rw [if_pos hp, hd', if_neg (by decide), if_pos hl]
          · rw [w_si_r (by decide), w_si_r (by decide), w_si_r (by decide), w_si_r (by decide), w_si_j hj]
          · rw [w_si_r (by omega), w_si_r (by omega), w_si_r (by omega), w_si_r (by omega), w_si_r (by omega)]
          · rw [w_si_e, w_si_r (by decide), w_si_r (by decide), w_si_e, w_si_r (by decide)]; by_cases y : j = rowC (stt T) p <;> simp [y]
          · rw [w_si_r (by decide), w_si_r (by decide), w_si_e, w_si_r (by decide), w_si_r (by decide)]; by_cases y : j = rowC (stt T) p <;> simp [y]
          · rw [w_si_r (by decide), w_si_e, w_si_r (by decide), w_si_r (by decide), w_si_r (by decide)]; by_cases y : j = rowC (stt T) p <;> simp [y]
    · -- another sign
      have hl' : isL (T p) = false := by simpa using hl
      have co := contO hd' hl'
      rw [if_neg hl, if_pos rfl, u_nn]
      have i61 : nI (T p) = (61 : Int32) ↔ T p = 61 := nI_eq (b := 61) (by omega) (by omega)
      have i32 : nI (T p) = (32 : Int32) ↔ T p = 32 := nI_eq (b := 32) (by omega) (by omega)
      have i60 : nI (bB N T p) = (60 : Int32) ↔ bB N T p = 60 := nI_eq (b := 60) (by omega) (by omega)
      have i62 : nI (bB N T p) = (62 : Int32) ↔ bB N T p = 62 := nI_eq (b := 62) (by omega) (by omega)
      by_cases hcn : cont T p = true
      · have co2 := co
        rw [hcn] at co2
        have co3 : (decide (T p = 61) && decide (bB N T p = 60 ∨ bB N T p = 62)) = true := co2.symm
        simp only [Bool.and_eq_true, decide_eq_true_eq] at co3
        obtain ⟨k, hk, hk1, hk2⟩ := cont_tok hp hcn
        obtain ⟨q, hq⟩ : ∃ q, p = q + 1 := ⟨p - 1, by omega⟩
        have eq := bB_e (N := N) (T := T) hp q hq
        -- the token is the sign before
        have hki : enu (stt T) N k = q ∧ isD (T q) = false ∧ isL (T q) = false := by
          have dq : isD (T q) = false := by
            rw [← eq]; rcases co3.2 with z | z <;> rw [z] <;> decide
          have lq : isL (T q) = false := by
            rw [← eq]; rcases co3.2 with z | z <;> rw [z] <;> decide
          refine ⟨?_, dq, lq⟩
          unfold ln at hk2
          cases hD : isD (T (enu (stt T) N k)) with
          | true =>
            rw [hD, if_pos rfl] at hk2
            have := rn_in isD T _ _ p (by omega) hk2
            rw [hd'] at this; cases this
          | false =>
            rw [hD, if_neg (by decide)] at hk2
            cases hL : isL (T (enu (stt T) N k)) with
            | true =>
              rw [hL, if_pos rfl] at hk2
              have := rn_in isL T _ _ p (by omega) hk2
              rw [hl'] at this; cases this
            | false =>
              rw [hL, if_neg (by decide)] at hk2
              by_cases u : (T (enu (stt T) N k) = 60 ∨ T (enu (stt T) N k) = 62) ∧ enu (stt T) N k + 1 < N ∧ T (enu (stt T) N k + 1) = 61
              · rw [if_pos u] at hk2; omega
              · rw [if_neg u] at hk2; omega
        have e5 : wr.1 0 5 = nI k := by rw [c1, ← hk, nI_pred]
        have xk : ixn 401 (nI k) = true := u_ixn (by omega) (by decide)
        have ckk : (nI k).toNatClampNeg = k := nI_clamp (by omega)
        obtain ⟨d1, d2, -⟩ := hc.2.1 k (by omega)
        have n0 : nup N T (p + 1) k = 0 := by unfold nup; rw [hki.1, if_neg (by rw [hki.2.1]; decide)]
        have n1 : wr.1 4 k = 0 := by rw [d2]; unfold nup; rw [hki.1, if_neg (by rw [hki.2.1]; decide)]
        have sv : syv wl N T (enu (stt T) N k) = if bB N T p = 60 then 259 else 260 := by
          unfold syv
          rw [hki.1, if_pos (by omega), hki.2.1, hki.2.2, if_neg (by decide), if_neg (by decide), if_pos ⟨by rw [← eq]; exact co3.2, by omega, by rw [← hq]; exact co3.1⟩, eq]
        refine ⟨w_si wr 2 k (syv wl N T (enu (stt T) N k)), ?_, hc.on hp hcn (v2 := syv wl N T (enu (stt T) N k)) (v4 := wr.1 4 k) hk (by rw [n0, n1]) (fun _ => rfl) (fun j => by rw [w_si_r (by decide)]) (fun r hr => w_si_r (by omega)) (fun j => by rw [w_si_e]; by_cases y : j = k <;> simp [y]) (fun j => by rw [w_si_r (by decide)]; by_cases y : j = k <;> simp [y])⟩
        rw [if_pos (i61.mpr co3.1), u_nn, e5, ckk]
        by_cases z : bB N T p = 60
        · rw [if_pos (i60.mpr z)]
          dsimp only
          rw [u_nn, if_pos (i60.mpr z)]
          dsimp only
          rw [u_ck xk, u_nn, sv, if_pos z]
        · rw [if_neg (fun q => z (i60.mp q)), if_pos (i62.mpr (co3.2.resolve_left z))]
          dsimp only
          rw [u_nn, if_neg (fun q => z (i60.mp q))]
          dsimp only
          rw [u_ck xk, u_nn, sv, if_neg z]
      · have hcn' : cont T p = false := by simpa using hcn
        rw [hcn'] at co
        have co3 : ¬ (T p = 61 ∧ (bB N T p = 60 ∨ bB N T p = 62)) := fun q => by
          rw [decide_eq_true q.1, decide_eq_true q.2] at co; cases co
        -- all ends at the same place
        have red : ∀ J : Unit → Option MS, (if nI (T p) = (61 : Int32) then (nn (fun (uu_171 : Unit) => (nn (fun (s0_195 : Int32) => (ck (ixn 401 (wr.1 0 5) = true) <| nn (w_si wr 2 (wr.1 0 5).toNatClampNeg s0_195) fun w20 => some w20)) fun j_195 => if nI (bB N T p) = (60 : Int32) then (j_195 (259 : Int32)) else j_195 (260 : Int32))) fun j_171 => if nI (bB N T p) = (60 : Int32) then (j_171 ()) else if nI (bB N T p) = (62 : Int32) then (j_171 ()) else J ()) else J ()) = J () := fun J => by
          by_cases z : T p = 61
          · rw [if_pos (i61.mpr z), u_nn, if_neg (fun q => co3 ⟨z, Or.inl (i60.mp q)⟩), if_neg (fun q => co3 ⟨z, Or.inr (i62.mp q)⟩)]
          · rw [if_neg (fun q => z (i61.mp q))]
        by_cases hb : T p = 32
        · refine ⟨wr, (red (fun _ => if nI (T p) = (32 : Int32) then (some wr) else ob (s_X8_put G (nI (T p)) (nI p) wr) fun w16 => some w16)).trans ?_, hc.blank hp hb⟩
          rw [if_pos (i32.mpr hb)]
        · have hs : stt T p = true := by unfold stt; rw [hcn', decide_eq_false hb]; rfl
          have ea := enu_at (stt T) hp hs
          have n0 : nup N T (p + 1) (rowC (stt T) p) = 0 := by unfold nup; rw [ea, if_neg (by rw [hd']; decide)]
          refine ⟨_, (red (fun _ => if nI (T p) = (32 : Int32) then (some wr) else ob (s_X8_put G (nI (T p)) (nI p) wr) fun w16 => some w16)).trans ?_, hc.new hp hs (v1 := nI (T p)) (v4 := 0) (wr' := w_si (w_si (w_si (w_si wr 0 5 (nI (rowC (stt T) p))) 2 (rowC (stt T) p) (nI (T p))) 3 (rowC (stt T) p) (nI p)) 4 (rowC (stt T) p) 0) n0.symm (fun q => ?_) ?_ (fun j hj => ?_) (fun r hr => ?_) (fun j => ?_) (fun j => ?_) (fun j => ?_)⟩
          · rw [if_neg (fun q => hb (i32.mp q)), q_put c1 (by omega), u_ob]
          · unfold syv
            rw [if_pos hp, hd', hl', if_neg (by decide), if_neg (by decide)]
            rcases q with q | q
            · rw [hd'] at q; cases q
            · rw [if_neg (fun u => by
                have h1 := q u.2.1
                have h2 : cont T (p + 1) = true := by
                  show ((isD (T p) && isD (T (p + 1))) || ((isL (T p) && isL (T (p + 1))) || (decide (T p = 60 ∨ T p = 62) && decide (T (p + 1) = 61)))) = true
                  rw [decide_eq_true u.1, decide_eq_true u.2.2]; simp
                rw [h1] at h2; cases h2)]
          · rw [w_si_r (by decide), w_si_r (by decide), w_si_r (by decide), w_si_s]
          · rw [w_si_r (by decide), w_si_r (by decide), w_si_r (by decide), w_si_j hj]
          · rw [w_si_r (by omega), w_si_r (by omega), w_si_r (by omega), w_si_r (by omega)]
          · rw [w_si_r (by decide), w_si_r (by decide), w_si_e, w_si_r (by decide)]; by_cases y : j = rowC (stt T) p <;> simp [y]
          · rw [w_si_r (by decide), w_si_e, w_si_r (by decide), w_si_r (by decide)]; by_cases y : j = rowC (stt T) p <;> simp [y]
          · rw [w_si_e, w_si_r (by decide), w_si_r (by decide), w_si_r (by decide)]; by_cases y : j = rowC (stt T) p <;> simp [y]
theorem cut_loop (hG : GI G) (hW : WT x wl) (hT : TxC N T wr0) : ∀ (d p n : Nat) (wr : MS), p + d = N → d < n → Cut wl N T wr0 p wr → ∃ wr', Cut wl N T wr0 N wr' ∧ ∀ K, lw1 (S_X8_open_7 G (G.2.2.2.1 x) K) n (nI p) wr = K wr'
  | 0, p, n + 1, wr, e, _, hc => by
    have hN := hT.1
    have : p = N := by omega
    subst this
    refine ⟨wr, hc, fun K => ?_⟩
    show S_X8_open_7 G (G.2.2.2.1 x) K _ _ _ = _
    rw [S_X8_open_7, hc.2.2.1 1 (by decide), hT.2.1, if_pos (nI_le (Nat.le_refl _) (by omega))]
  | d + 1, p, n + 1, wr, e, hn, hc => by
    have hN := hT.1
    obtain ⟨w1, a1, a2⟩ := cutp_step hG hW hT (by omega) hc
    obtain ⟨w2, b1, b2⟩ := cut_loop hG hW hT d (p + 1) n w1 (by omega) (by omega) a2
    refine ⟨w2, b1, fun K => ?_⟩
    show S_X8_open_7 G (G.2.2.2.1 x) K _ _ _ = _
    rw [S_X8_open_7, hc.2.2.1 1 (by decide), hT.2.1, if_neg (nI_ge (show p < N by omega) (by omega)), a1, u_ob, u_nn, nI_1]
    exact b2 K
/-- all tokens, in the class's rows -/
def Tks (wl : List (List Nat)) (N : Nat) (T : Nat → Nat) (wr : MS) : Prop := wr.1 0 5 = nI (tK N T) ∧ ∀ k, k ≤ tK N T → wr.1 2 k = syv wl N T (tp N T k) ∧ wr.1 3 k = nI (tp N T k) ∧ wr.1 4 k = nuv N T (tp N T k)
/-- the class stands at token k, with the fault f -/
def AtC (wl : List (List Nat)) (N : Nat) (T : Nat → Nat) (wr : MS) (k : Nat) (f : Int32) : Prop := k ≤ tK N T ∧ wr.1 0 6 = nI k ∧ wr.1 0 7 = syv wl N T (tp N T k) ∧ wr.1 0 8 = nuv N T (tp N T k) ∧ wr.1 0 9 = f
theorem tK_le (N : Nat) (T : Nat → Nat) : tK N T ≤ N := rowC_le _ _
theorem q_advance (hN : N ≤ 400) (hk : Tks wl N T wr) {a : Nat} (h6 : wr.1 0 6 = nI a - 1) (ha : a ≤ tK N T) : s_X8_advance G wr = some (w_si (w_si (w_si wr 0 6 (nI a)) 0 7 (syv wl N T (tp N T a))) 0 8 (nuv N T (tp N T a))) := by
  have h1 := tK_le N T
  have e1 : nI a - 1 + 1 = nI a := Int32.sub_add_cancel _ _
  have lt : ¬ nI (tK N T) ≤ nI a - 1 := by
    cases a with
    | zero => rw [I_le, nI_toInt (by omega)]; show ¬ (tK N T : Int) ≤ -1; omega
    | succ a => rw [nI_pred]; exact nI_ge (by omega) (by omega)
  have xa : ixn 401 (nI a) = true := u_ixn (by omega) (by decide)
  have ca : (nI a).toNatClampNeg = a := nI_clamp (by omega)
  obtain ⟨k1, -, k3⟩ := hk.2 a ha
  unfold s_X8_advance
  rw [hk.1, h6, if_neg lt, e1, u_nn, w_si_s, u_ck xa, ca, w_si_r (by decide), k1, u_nn, w_si_j (by decide), w_si_s, u_ck xa, ca, w_si_r (by decide), w_si_r (by decide), k3, u_nn]
theorem q_advK (hk : Tks wl N T wr) {f : Int32} (h : AtC wl N T wr (tK N T) f) : s_X8_advance G wr = some wr := by
  unfold s_X8_advance
  rw [hk.1, h.2.1, if_pos I_ler]
theorem q_open (hG : GI G) (hW : WT x wl) (hT : TxC N T wr0) : ∃ wr', s_X8_open G (G.2.2.2.1 x) wr0 = some wr' ∧ Tks wl N T wr' ∧ AtC wl N T wr' 0 0 ∧ TxC N T wr' ∧ (∀ r, r = 1 ∨ 5 ≤ r → wr'.1 r = wr0.1 r) := by
  have hN := hT.1
  have hK := tK_le N T
  have hT1 : TxC N T (w_si wr0 0 5 (-1)) := ⟨hN, by rw [w_si_j (by decide)]; exact hT.2.1, fun i hi => by rw [w_si_r (by decide)]; exact hT.2.2 i hi⟩
  have hc0 : Cut wl N T (w_si wr0 0 5 (-1)) 0 (w_si wr0 0 5 (-1)) := ⟨by rw [w_si_s]; rfl, fun k hk => absurd hk (Nat.not_lt_zero k), fun _ _ => rfl, fun _ _ => rfl⟩
  obtain ⟨wa, a1, a2⟩ := cut_loop hG hW hT1 N 0 bN _ (Nat.zero_add _) (bN_gt (by omega)) hc0
  obtain ⟨c1, c2, c3, c4⟩ := a1
  have etp : ∀ k, k < tK N T → enu (stt T) N k = tp N T k := fun k hk => by unfold tp; rw [if_pos hk]
  have eK : tp N T (tK N T) = N := by unfold tp; rw [if_neg (Nat.lt_irrefl _)]
  have e1 : wa.1 0 1 = nI N := by rw [c3 1 (by decide), w_si_j (by decide)]; exact hT.2.1
  have put := q_put (G := G) (wr := wa) (a := tK N T) c1 (by omega) 257 (nI N)
  generalize hwb : w_si (w_si (w_si (w_si wa 0 5 (nI (tK N T))) 2 (tK N T) 257) 3 (tK N T) (nI N)) 4 (tK N T) 0 = wb at put
  have hb : Tks wl N T wb := by
    refine ⟨by rw [← hwb, w_si_r (by decide), w_si_r (by decide), w_si_r (by decide), w_si_s], fun k hk => ?_⟩
    have b2 : wb.1 2 k = if k = tK N T then 257 else wa.1 2 k := by rw [← hwb, w_si_r (by decide), w_si_r (by decide), w_si_e, w_si_r (by decide)]; by_cases y : k = tK N T <;> simp [y]
    have b3 : wb.1 3 k = if k = tK N T then nI N else wa.1 3 k := by rw [← hwb, w_si_r (by decide), w_si_e, w_si_r (by decide), w_si_r (by decide)]; by_cases y : k = tK N T <;> simp [y]
    have b4 : wb.1 4 k = if k = tK N T then 0 else wa.1 4 k := by rw [← hwb, w_si_e, w_si_r (by decide), w_si_r (by decide), w_si_r (by decide)]; by_cases y : k = tK N T <;> simp [y]
    by_cases z : k = tK N T
    · subst z
      rw [b2, b3, b4, if_pos rfl, if_pos rfl, if_pos rfl, eK]
      refine ⟨?_, rfl, ?_⟩
      · unfold syv; rw [if_neg (Nat.lt_irrefl _)]
      · unfold nuv; rw [if_neg (fun q => Nat.lt_irrefl _ q.1)]
    · have hk' : k < tK N T := by omega
      obtain ⟨d1, d2, d3⟩ := c2 k hk'
      have tk := tp_ok hk'
      rw [b2, b3, b4, if_neg z, if_neg z, if_neg z, d1, d2, d3 (Or.inr (Or.inr (fun h => absurd h (Nat.lt_irrefl _)))), etp k hk']
      refine ⟨rfl, rfl, ?_⟩
      unfold nup nuv
      rw [etp k hk']
      by_cases y : isD (T (tp N T k)) = true
      · rw [if_pos y, if_pos ⟨tk.1, y⟩]
        have := rn_le isD T (tp N T k) (N - tp N T k)
        rw [show min (N - tp N T k) (rn isD T (tp N T k) (N - tp N T k)) = rn isD T (tp N T k) (N - tp N T k) by omega]
      · rw [if_neg y, if_neg (fun q => y q.2)]
  have hb' : Tks wl N T (w_si (w_si wb 0 9 0) 0 6 (-1)) := ⟨by rw [w_si_j (by decide), w_si_j (by decide)]; exact hb.1, fun k hk => by rw [w_si_r (by decide), w_si_r (by decide), w_si_r (by decide), w_si_r (by decide), w_si_r (by decide), w_si_r (by decide)]; exact hb.2 k hk⟩
  have adv := q_advance (G := G) hN hb' (a := 0) (by rw [w_si_s]; rfl) (Nat.zero_le _)
  generalize hwc : w_si (w_si (w_si (w_si (w_si wb 0 9 0) 0 6 (-1)) 0 6 (nI 0)) 0 7 (syv wl N T (tp N T 0))) 0 8 (nuv N T (tp N T 0)) = wc at adv
  have cr : ∀ r, r ≠ 0 → wc.1 r = wb.1 r := fun r hr => by rw [← hwc, w_si_r hr, w_si_r hr, w_si_r hr, w_si_r hr, w_si_r hr]
  have c0 : ∀ j, j ≠ 6 → j ≠ 7 → j ≠ 8 → j ≠ 9 → wc.1 0 j = wb.1 0 j := fun j q1 q2 q3 q4 => by rw [← hwc, w_si_j q3, w_si_j q2, w_si_j q1, w_si_j q1, w_si_j q4]
  have br : ∀ r, r = 1 ∨ 5 ≤ r → wb.1 r = wr0.1 r := fun r hr => by rw [← hwb, w_si_r (by omega), w_si_r (by omega), w_si_r (by omega), w_si_r (by omega), c4 r hr, w_si_r (by omega)]
  refine ⟨wc, ?_, ⟨by rw [c0 5 (by decide) (by decide) (by decide) (by decide)]; exact hb.1, fun k hk => by rw [cr 2 (by decide), cr 3 (by decide), cr 4 (by decide)]; exact hb.2 k hk⟩, ⟨Nat.zero_le _, by rw [← hwc, w_si_j (by decide), w_si_j (by decide), w_si_s], by rw [← hwc, w_si_j (by decide), w_si_s], by rw [← hwc, w_si_s], by rw [← hwc, w_si_j (by decide), w_si_j (by decide), w_si_j (by decide), w_si_j (by decide), w_si_s]⟩, ⟨hN, ?_, fun i hi => by rw [cr 1 (by decide), br 1 (by omega)]; exact hT.2.2 i hi⟩, fun r hr => by rw [cr r (by omega), br r hr]⟩
  · unfold s_X8_open
    rw [u_nn]
    refine (a2 _).trans ?_
    rw [e1, put, u_ob, u_nn, u_nn, adv, u_ob]
  · rw [c0 1 (by decide) (by decide) (by decide) (by decide), ← hwb, w_si_r (by decide), w_si_r (by decide), w_si_r (by decide), w_si_j (by decide)]; exact e1
end
