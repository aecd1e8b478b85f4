/-! PURE 99f: the reference reads a text. -/
theorem by_all : ∀ k : Nat, k < 256 → (Int32.ofInt (-128 + k)) &&& 255 = nI ((k + 128) % 256) ∧ (Int32.ofInt (-128 + k)).toInt = (if (k + 128) % 256 < 128 then (((k + 128) % 256 : Nat) : Int) else (((k + 128) % 256 : Nat) : Int) - 256) := by decide +kernel
theorem by_one {x : Int32} (h : x.toInt8.toInt32 = x) : ∃ t : Nat, t < 256 ∧ x &&& 255 = nI t ∧ x.toInt = if t < 128 then (t : Int) else (t : Int) - 256 := by
  have hb : bd x (-128) 127 := by
    have h1 : x.toInt = x.toInt8.toInt := by
      have := congrArg Int32.toInt h
      rw [Int8.toInt_toInt32] at this
      exact this.symm
    have h2 := Int8.le_toInt x.toInt8
    have h3 := Int8.toInt_lt x.toInt8
    unfold bd
    omega
  obtain ⟨k, h1, h2⟩ := bd_of hb
  have := by_all k (by omega)
  rw [← h2] at this
  exact ⟨_, Nat.mod_lt _ (by decide), this.1, this.2⟩
section
variable {G : GG} {N : Nat} {T : Nat → Nat} {w w' : MS} {x i k p e : Nat} {S : List Nat}
/-- the text in the reference's rows -/
def TxW (N : Nat) (T : Nat → Nat) (w : MS) : Prop := N ≤ 400 ∧ w.1 0 32 = nI N ∧ ∀ i, i < N → w.1 42 i &&& 255 = nI (T i) ∧ T i < 256 ∧ (w.1 42 i).toInt = if T i < 128 then (T i : Int) else (T i : Int) - 256
theorem TxW.s33 (h : TxW N T w) {j : Nat} {y : Int32} (hj : j ≠ 32) : TxW N T (w_si w 0 j y) := ⟨h.1, by rw [w_si_j (Ne.symm hj)]; exact h.2.1, fun i hi => by rw [w_si_r (by decide)]; exact h.2.2 i hi⟩
theorem TxW.cg (h : TxW N T w) (e1 : w'.1 0 32 = w.1 0 32) (e2 : w'.1 42 = w.1 42) : TxW N T w' := by unfold TxW at h ⊢; rw [e1, e2]; exact h
def sgn (N : Nat) (T : Nat → Nat) (p : Nat) : Int32 := if p < N then nI (T p) else -1
theorem p_sign' (hT : TxW N T w) (hp : w.1 0 33 = nI p) (h9 : p ≤ 900) : p_X12_sign G w = some (sgn N T p, w) := by
  have hN := hT.1
  unfold p_X12_sign sgn
  rw [hT.2.1, hp]
  by_cases z : p < N
  · rw [if_neg (nI_ge z (by omega)), u_ck (u_ixn (by omega) (by decide)), nI_clamp (by omega), (hT.2.2 p z).1, if_pos z]
  · rw [if_pos (nI_le (by omega) (by omega)), if_neg z]
theorem sgn_eq (hT : TxW N T w) {c : Nat} (hc : c < 256) : sgn N T p = nI c ↔ p < N ∧ T p = c := by
  unfold sgn
  by_cases z : p < N
  · rw [if_pos z, nI_eq (by have := (hT.2.2 p z).2.1; omega) (by omega)]; exact ⟨fun h => ⟨z, h⟩, fun h => h.2⟩
  · rw [if_neg z]; exact ⟨fun h => absurd h.symm (nI_m1 (by omega)), fun h => absurd h.1 z⟩
theorem p_blanks' (heN : e ≤ N) (h2 : e < N → T e ≠ 32) : ∀ (d p n : Nat) (w : MS), TxW N T w → p + d = e → d < n → w.1 0 33 = nI p → (∀ j, p ≤ j → j < e → T j = 32) → lw0 (P_X12_blanks_0 G) n w = some (w_si w 0 33 (nI e))
  | 0, p, n + 1, w, hT, ee, _, hp, hb => by
    have : p = e := by omega
    subst this
    show P_X12_blanks_0 G _ _ = _
    rw [P_X12_blanks_0, p_sign' hT hp (by have := hT.1; omega), u_cw, if_neg (show ¬ sgn N T p = (32 : Int32) from fun q => by have := (sgn_eq hT (c := 32) (by decide)).mp q; exact h2 this.1 this.2), w_si_same hp]
  | d + 1, p, n + 1, w, hT, ee, hn, hp, hb => by
    show P_X12_blanks_0 G _ _ = _
    rw [P_X12_blanks_0, p_sign' hT hp (by have := hT.1; omega), u_cw, if_pos (show sgn N T p = (32 : Int32) from (sgn_eq hT (c := 32) (by decide)).mpr ⟨by omega, hb p (Nat.le_refl _) (by omega)⟩), hp, u_nn, nI_1]
    rw [p_blanks' heN h2 d (p + 1) n _ (hT.s33 (by decide)) (by omega) (by omega) (w_si_s _ _ _ _) (fun j q1 q2 => hb j (by omega) q2)]
    have : w_si (w_si w 0 33 (nI (p + 1))) 0 33 (nI e) = w_si w 0 33 (nI e) := by
      unfold w_si
      refine Prod.ext ?_ rfl
      funext r j
      show va_up (va_up w.1 0 (upd (w.1 0) 33 (nI (p + 1)))) 0 (upd (va_up w.1 0 (upd (w.1 0) 33 (nI (p + 1))) 0) 33 (nI e)) r j = va_up w.1 0 (upd (w.1 0) 33 (nI e)) r j
      unfold va_up upd
      by_cases z : r = 0
      · subst z; by_cases y : j = 33 <;> simp [y]
      · simp [z]
    rw [this]
theorem p_blanks_e (hT : TxW N T w) (hp : w.1 0 33 = nI p) (hpe : p ≤ e) (heN : e ≤ N) (h2 : e < N → T e ≠ 32) (hb : ∀ j, p ≤ j → j < e → T j = 32) : p_X12_blanks G w = some (w_si w 0 33 (nI e)) :=
  p_blanks' heN h2 (e - p) p bN w hT (by omega) (bN_gt (by have := hT.1; omega)) hp hb
/-- wherever it stands -/
theorem p_blanks_any (hT : TxW N T w) (hp : w.1 0 33 = nI p) (h9 : p ≤ 900) : ∃ e, p ≤ e ∧ (e = p ∨ e ≤ N) ∧ p_X12_blanks G w = some (w_si w 0 33 (nI e)) := by
  have hN := hT.1
  rcases Nat.lt_or_ge p N with z | z
  · have a := rn_le (fun c => decide (c = 32)) T p (N - p)
    refine ⟨p + rn (fun c => decide (c = 32)) T p (N - p), by omega, Or.inr (by omega), p_blanks_e hT hp (by omega) (by omega) (fun h => ?_) (fun j q1 q2 => of_decide_eq_true (rn_in (fun c => decide (c = 32)) T p (N - p) j q1 q2))⟩
    exact of_decide_eq_false (rn_end (fun c => decide (c = 32)) T p (N - p) (by omega))
  · refine ⟨p, Nat.le_refl _, Or.inl rfl, ?_⟩
    have : ∀ n, 0 < n → lw0 (P_X12_blanks_0 G) n w = some w := fun n hn => by
      obtain ⟨n, rfl⟩ : ∃ m, n = m + 1 := ⟨n - 1, by omega⟩
      show P_X12_blanks_0 G _ _ = _
      rw [P_X12_blanks_0, p_sign' hT hp h9, u_cw, if_neg (show ¬ sgn N T p = (32 : Int32) from fun q => by have := (sgn_eq hT (c := 32) (by decide)).mp q; omega)]
    rw [w_si_same hp]; exact this bN (bN_gt (by decide))
theorem p_isDigit' (hT : TxW N T w) (hp : w.1 0 33 = nI p) (h9 : p ≤ 900) : p_X12_isDigit G w = some (if p < N ∧ isD (T p) = true then 1 else 0, w) := by
  unfold p_X12_isDigit
  have pin : p_X12_in G (sgn N T p).toInt64 (48 : Int64) (57 : Int64) w = some (if 48 ≤ sgn N T p ∧ sgn N T p ≤ 57 then 1 else 0, w) := p_in_i G (sgn N T p) 48 57 w
  have i48 : (48 : Int32).toInt = 48 := rfl
  have i57 : (57 : Int32).toInt = 57 := rfl
  have iff' : (48 ≤ sgn N T p ∧ sgn N T p ≤ 57) ↔ (p < N ∧ isD (T p) = true) := by
    unfold sgn isD
    rw [decide_eq_true_eq]
    by_cases z : p < N
    · have hb := (hT.2.2 p z).2.1
      rw [if_pos z, I_le, I_le, i48, i57, nI_toInt (by omega)]
      exact ⟨fun h => ⟨z, by omega⟩, fun h => by omega⟩
    · rw [if_neg z]; exact ⟨fun h => absurd h.1 (by decide), fun h => absurd h.1 z⟩
  rw [p_sign' hT hp h9, u_cw, pin, u_cw]
  by_cases y : p < N ∧ isD (T p) = true
  · rw [if_pos (iff'.mpr y), if_pos y]; rfl
  · rw [if_neg (fun q => y (iff'.mp q)), if_neg y]; rfl
/-- a String constant of the reference -/
def WS (x : Nat) (S : List Nat) : Prop := x < 25 ∧ s_len.getD x 0 = S.length ∧ 0 < S.length ∧ S.length ≤ 6 ∧ ∀ j, j < S.length → isL (S.getD j 0) = true ∧ s_ch x j = nI (S.getD j 0)
theorem run_loop (hT : TxW N T w) (K : Int32 → MS → Option (Int32 × MS)) (y : Nat) : ∀ (d p n : Nat), rn isL T p (N - p) = d → d < n → p ≤ 900 → lw1 (P_X12_stood_5 G y K) n (nI p) w = K (nI (p + d)) w
  | d, p, n + 1, hd, hn, h9 => by
    have hN := hT.1
    have i97 : (97 : Int32).toInt = 97 := rfl
    have i122 : (122 : Int32).toInt = 122 := rfl
    show P_X12_stood_5 G y K _ _ _ = _
    rw [P_X12_stood_5, hT.2.1]
    by_cases z : p < N
    · obtain ⟨t1, t2, t3⟩ := hT.2.2 p z
      obtain ⟨m, hm⟩ : ∃ m, N - p = m + 1 := ⟨N - p - 1, by omega⟩
      have er : rn isL T p (N - p) = if isL (T p) then rn isL T (p + 1) (N - (p + 1)) + 1 else 0 := by rw [hm, show N - (p + 1) = m by omega]; rfl
      rw [if_neg (nI_ge z (by omega)), u_ck (u_ixn (by omega) (by decide)), nI_clamp (by omega)]
      by_cases l : isL (T p) = true
      · have ll := L32 l
        rw [er, if_pos l] at hd
        rw [if_pos (by omega)] at t3
        rw [if_neg (by rw [I_lt, i97]; omega), u_ck (u_ixn (by omega) (by decide)), if_neg (by rw [I_lt, i122]; omega), u_nn, nI_1]
        cases d with
        | zero => omega
        | succ d =>
          rw [run_loop hT K y d (p + 1) n (by omega) (by omega) (by omega), show p + 1 + d = p + (d + 1) by omega]
      · have l' : ¬ (97 ≤ T p ∧ T p ≤ 122) := fun q => l (decide_eq_true q)
        rw [er, if_neg l] at hd
        subst hd
        rw [Nat.add_zero]
        by_cases u : (w.1 42 p) < 97
        · rw [if_pos u]
        · rw [if_neg u, u_ck (u_ixn (by omega) (by decide)), if_pos (by
            rw [I_lt, i97] at u
            rw [I_lt, i122]
            by_cases v : T p < 128
            · rw [if_pos v] at t3; omega
            · rw [if_neg v] at t3; omega)]
    · have : rn isL T p (N - p) = 0 := by rw [show N - p = 0 by omega]; rfl
      rw [this] at hd
      subst hd
      rw [if_pos (nI_le (by omega) (by omega)), Nat.add_zero]
theorem p_stood' (hG : GI G) (hS : WS x S) (hT : TxW N T w) (hp : w.1 0 33 = nI p) (h9 : p ≤ 900) : p_X12_stood G (G.2.2.2.1 x) w = some (if wd N T S p then 1 else 0, w) := by
  have hN := hT.1
  obtain ⟨s1, s2, s3, s4, s5⟩ := hS
  have hrn := rn_le isL T p (N - p)
  have rl := fun K => run_loop (G := G) hT K (G.2.2.2.1 x) (rn isL T p (N - p)) p bN rfl (bN_gt (by omega)) h9
  unfold p_X12_stood
  rw [u_nn, hp]
  refine (rl _).trans ?_
  have esub : nI (p + rn isL T p (N - p)) - nI p = nI (rn isL T p (N - p)) := by rw [pk_sub (by omega), Nat.add_sub_cancel_left]
  rw [q_len hG s1, u_cw, u_nn, hp, esub, s2]
  -- the second loop
  have key : ∀ (d j n : Nat) (b : Bool), j + d = S.length → d < n → (b = true → rn isL T p (N - p) = S.length) → lw2 (P_X12_stood_63 G (G.2.2.2.1 x)) n (if b then (1 : Int32) else 0) (nI j) w = some (if b && decide (∀ i, i < S.length → j ≤ i → T (p + i) = S.getD i 0) then 1 else 0, w) := by
    intro d
    induction d with
    | zero =>
      intro j n b e hn hb
      obtain ⟨n, rfl⟩ : ∃ m, n = m + 1 := ⟨n - 1, by omega⟩
      show P_X12_stood_63 G (G.2.2.2.1 x) _ _ _ _ = _
      rw [P_X12_stood_63, q_len hG s1, u_cw, s2, if_pos (nI_le (by omega) (by omega))]
      rw [decide_eq_true (show ∀ i, i < S.length → j ≤ i → T (p + i) = S.getD i 0 from fun i q1 q2 => by omega)]
      cases b <;> rfl
    | succ d ih =>
      intro j n b e hn hb
      obtain ⟨n, rfl⟩ : ∃ m, n = m + 1 := ⟨n - 1, by omega⟩
      show P_X12_stood_63 G (G.2.2.2.1 x) _ _ _ _ = _
      rw [P_X12_stood_63, q_len hG s1, u_cw, s2, if_neg (nI_ge (by omega) (by omega))]
      cases b with
      | false => rw [if_pos (show (if false = true then (1 : Int32) else 0) = 0 from rfl)]; rfl
      | true =>
        have hr := hb rfl
        have hpj : p + j < N := by omega
        obtain ⟨t1, t2, t3⟩ := hT.2.2 (p + j) hpj
        obtain ⟨l1, l2⟩ := s5 j (by omega)
        have ll := L32 l1
        have lt := L32 (rn_in isL T p (N - p) (p + j) (by omega) (by omega))
        rw [if_pos (by omega)] at t3
        have ci : (w.1 42 (p + j) = nI (S.getD j 0)) ↔ T (p + j) = S.getD j 0 := by
          rw [I_eq, t3, nI_toInt (by omega)]; omega
        rw [if_neg (by decide), hp, nI_add, u_ck (u_ixn (by omega) (by decide)), q_char hG s1 (by rw [s2]; omega) (by omega), u_cw, u_nn, nI_clamp (by omega), l2]
        by_cases z : T (p + j) = S.getD j 0
        · rw [if_pos (ci.mpr z)]
          dsimp only
          rw [u_nn, nI_1]
          have ih1 := ih (j + 1) n true (by omega) (by omega) (fun _ => hr)
          refine Eq.trans ih1 ?_
          have : decide (∀ i, i < S.length → j + 1 ≤ i → T (p + i) = S.getD i 0) = decide (∀ i, i < S.length → j ≤ i → T (p + i) = S.getD i 0) := decide_eq_decide.mpr ⟨fun q i q1 q2 => by
            by_cases y : i = j
            · subst y; exact z
            · exact q i q1 (by omega), fun q i q1 q2 => q i q1 (by omega)⟩
          rw [this]
        · rw [if_neg (fun q => z (ci.mp q))]
          dsimp only
          rw [u_nn, nI_1]
          have ih1 := ih (j + 1) n false (by omega) (by omega) (fun q => by cases q)
          refine Eq.trans ih1 ?_
          rw [decide_eq_false (show ¬ ∀ i, i < S.length → j ≤ i → T (p + i) = S.getD i 0 from fun q => z (q j (by omega) (Nat.le_refl _)))]
          rfl
  by_cases z : rn isL T p (N - p) = S.length
  · rw [if_pos (by rw [z])]
    have k1 := key S.length 0 bN true (Nat.zero_add _) (bN_gt (by omega)) (fun _ => z)
    refine Eq.trans k1 ?_
    have : (true && decide (∀ i, i < S.length → 0 ≤ i → T (p + i) = S.getD i 0)) = wd N T S p := by
      unfold wd
      rw [Bool.true_and]
      exact decide_eq_decide.mpr ⟨fun q => ⟨z, fun j hj => q j hj (Nat.zero_le _)⟩, fun q i hi _ => q.2 i hi⟩
    rw [this]
  · rw [if_neg (fun q => z ((nI_eq (by omega) (by omega)).mp q))]
    have k1 := key S.length 0 bN false (Nat.zero_add _) (bN_gt (by omega)) (fun q => by cases q)
    refine Eq.trans k1 ?_
    have : wd N T S p = false := decide_eq_false (fun q => z q.1)
    rw [this]; rfl
/-- a number's digits -/
theorem dv_n (T : Nat → Nat) (i : Nat) : ∀ m, m ≤ 5 → (∀ j, j < m → isD (T (i + j)) = true) → ∃ v : Nat, v < 10 ^ m ∧ dv T i m = nI v
  | 0, _, _ => ⟨0, by decide, rfl⟩
  | m + 1, hm, hd => by
    obtain ⟨v, h1, h2⟩ := dv_n T i m (by omega) (fun j hj => hd j (by omega))
    have hb := D32 (hd m (by omega))
    have hp : 10 ^ m ≤ 10 ^ 4 := Nat.pow_le_pow_right (by decide) (by omega)
    refine ⟨v * 10 + T (i + m) - 48, by rw [Nat.pow_succ]; omega, ?_⟩
    rw [dv_s, if_pos (by omega), h2]
    show (nI v * nI 10 + nI (T (i + m))) - nI 48 = _
    rw [pk_mul, nI_add, pk_sub (by omega)]
theorem dig_loop (i : Nat) (b : Int32) (R : Nat) (hR : rn isD T i (N - i) = R) (hi : i < N) : ∀ (d m n : Nat) (w : MS), TxW N T w → m + d = R → d < n → w.1 0 33 = nI (i + m) → ∀ K, lw1 (P_X12_digits_25 G b (nI i) K) n (dv T i (min m 5)) w = K (dv T i (min R 5)) (w_si w 0 33 (nI (i + R)))
  | 0, m, n + 1, w, hT, e, _, hp, K => by
    have hN := hT.1
    have hle := rn_le isD T i (N - i)
    have : m = R := by omega
    subst this
    show P_X12_digits_25 G b (nI i) K _ _ _ = _
    rw [P_X12_digits_25, p_isDigit' hT hp (by omega), u_cw, if_neg (show ¬ (i + m < N ∧ isD (T (i + m)) = true) from fun q => by
      have := rn_end isD T i (N - i) (by omega)
      rw [hR, q.2] at this; cases this), if_pos rfl, w_si_same hp]
  | d + 1, m, n + 1, w, hT, e, hn, hp, K => by
    have hN := hT.1
    have hle := rn_le isD T i (N - i)
    have hd : isD (T (i + m)) = true := rn_in isD T i (N - i) (i + m) (by omega) (by omega)
    have hTb := (hT.2.2 (i + m) (by omega)).2.1
    have ih := dig_loop i b R hR hi d (m + 1) n (w_si w 0 33 (nI (i + (m + 1)))) (hT.s33 (by decide)) (by omega) (by omega) (w_si_s _ _ _ _) K
    have ws : w_si (w_si w 0 33 (nI (i + (m + 1)))) 0 33 (nI (i + R)) = w_si w 0 33 (nI (i + R)) := by
      unfold w_si
      refine Prod.ext ?_ rfl
      funext r j
      show va_up (va_up w.1 0 (upd (w.1 0) 33 (nI (i + (m + 1))))) 0 (upd (va_up w.1 0 (upd (w.1 0) 33 (nI (i + (m + 1)))) 0) 33 (nI (i + R))) r j = va_up w.1 0 (upd (w.1 0) 33 (nI (i + R))) r j
      unfold va_up upd
      by_cases z : r = 0
      · subst z; by_cases y : j = 33 <;> simp [y]
      · simp [z]
    rw [ws] at ih
    show P_X12_digits_25 G b (nI i) K _ _ _ = _
    have esub : nI (i + m) - nI i = nI m := by rw [pk_sub (by omega), Nat.add_sub_cancel_left]
    have e1 : nI (i + m) + 1 = nI (i + (m + 1)) := nI_1 (i + m)
    rw [P_X12_digits_25, p_isDigit' hT hp (by omega), u_cw, if_pos (show i + m < N ∧ isD (T (i + m)) = true from ⟨by omega, hd⟩), if_neg n10, u_nn, hp, esub]
    by_cases z : 5 ≤ m
    · rw [if_pos (show (5 : Int32) ≤ nI m from nI_le (a := 5) z (by omega))]
      dsimp only
      rw [hp, u_nn, e1, show min m 5 = min (m + 1) 5 by omega]
      exact ih
    · rw [if_neg (show ¬ (5 : Int32) ≤ nI m from nI_ge (b := 5) (by omega) (by omega)), p_sign' hT hp (by omega), u_cw]
      dsimp only
      have ev : (10 : Int32) * dv T i (min m 5) + sgn N T (i + m) - 48 = dv T i (min (m + 1) 5) := by
        rw [show min m 5 = m by omega, show min (m + 1) 5 = m + 1 by omega, dv_s, if_pos (by omega), Int32.mul_comm]
        unfold sgn; rw [if_pos (show i + m < N by omega)]
      rw [hp, u_nn, e1, ev]
      exact ih
end
