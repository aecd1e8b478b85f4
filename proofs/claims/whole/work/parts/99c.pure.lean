/-! PURE 99c: a text and its tokens. -/
def isD (c : Nat) : Bool := decide (48 ≤ c ∧ c ≤ 57)
def isL (c : Nat) : Bool := decide (97 ≤ c ∧ c ≤ 122)
/-- the place goes on with the token before it -/
def cont (T : Nat → Nat) : Nat → Bool
  | 0 => false
  | j + 1 => (isD (T j) && isD (T (j + 1))) || ((isL (T j) && isL (T (j + 1))) || (decide (T j = 60 ∨ T j = 62) && decide (T (j + 1) = 61)))
def stt (T : Nat → Nat) (i : Nat) : Bool := !(decide (T i = 32)) && !(cont T i)
def tK (N : Nat) (T : Nat → Nat) : Nat := rowC (stt T) N
def tp (N : Nat) (T : Nat → Nat) (k : Nat) : Nat := if k < tK N T then enu (stt T) N k else N
/-- how far a kind of signs goes on -/
def rn (p : Nat → Bool) (T : Nat → Nat) : Nat → Nat → Nat
  | _, 0 => 0
  | i, d + 1 => if p (T i) then rn p T (i + 1) d + 1 else 0
def ln (N : Nat) (T : Nat → Nat) (i : Nat) : Nat := if isD (T i) then rn isD T i (N - i) else if isL (T i) then rn isL T i (N - i) else if (T i = 60 ∨ T i = 62) ∧ i + 1 < N ∧ T (i + 1) = 61 then 2 else 1
section
variable {N : Nat} {T : Nat → Nat} {p : Nat → Bool} {i j k : Nat}
theorem rn_le (p : Nat → Bool) (T : Nat → Nat) : ∀ i d, rn p T i d ≤ d
  | _, 0 => Nat.le_refl _
  | i, d + 1 => by
    have := rn_le p T (i + 1) d
    show (if p (T i) then rn p T (i + 1) d + 1 else 0) ≤ _
    split <;> omega
theorem rn_in (p : Nat → Bool) (T : Nat → Nat) : ∀ i d j, i ≤ j → j < i + rn p T i d → p (T j) = true
  | i, 0, j, h1, h2 => by have : rn p T i 0 = 0 := rfl; omega
  | i, d + 1, j, h1, h2 => by
    have e : rn p T i (d + 1) = if p (T i) then rn p T (i + 1) d + 1 else 0 := rfl
    by_cases z : p (T i) = true
    · rw [e, if_pos z] at h2
      by_cases y : j = i
      · subst y; exact z
      · exact rn_in p T (i + 1) d j (by omega) (by omega)
    · rw [e, if_neg z] at h2; omega
theorem rn_end (p : Nat → Bool) (T : Nat → Nat) : ∀ i d, rn p T i d < d → p (T (i + rn p T i d)) = false
  | _, 0, h => absurd h (Nat.not_lt_zero _)
  | i, d + 1, h => by
    have e : rn p T i (d + 1) = if p (T i) then rn p T (i + 1) d + 1 else 0 := rfl
    by_cases z : p (T i) = true
    · rw [e, if_pos z] at h ⊢
      have := rn_end p T (i + 1) d (by omega)
      rw [show i + (rn p T (i + 1) d + 1) = i + 1 + rn p T (i + 1) d by omega]; exact this
    · rw [e, if_neg z]; simpa using z
theorem rn_pos (h : p (T i) = true) (hi : i < N) : 0 < rn p T i (N - i) := by
  obtain ⟨d, hd⟩ : ∃ d, N - i = d + 1 := ⟨N - i - 1, by omega⟩
  rw [hd]
  show 0 < (if p (T i) then rn p T (i + 1) d + 1 else 0)
  rw [if_pos h]; omega
theorem isD_L {c : Nat} (h : isD c = true) : isL c = false := by
  unfold isD isL at *
  rw [decide_eq_true_eq] at h
  exact decide_eq_false (fun q => by omega)
theorem D32 {c : Nat} (h : isD c = true) : 48 ≤ c ∧ c ≤ 57 := of_decide_eq_true h
theorem L32 {c : Nat} (h : isL c = true) : 97 ≤ c ∧ c ≤ 122 := of_decide_eq_true h
theorem ln_le (hi : i < N) : i + ln N T i ≤ N := by
  unfold ln
  have h1 := rn_le isD T i (N - i)
  have h2 := rn_le isL T i (N - i)
  split
  · omega
  · split
    · omega
    · split <;> omega
theorem ln_pos (hi : i < N) : 0 < ln N T i := by
  unfold ln
  by_cases z : isD (T i) = true
  · rw [if_pos z]; exact rn_pos z hi
  · rw [if_neg z]
    by_cases y : isL (T i) = true
    · rw [if_pos y]; exact rn_pos y hi
    · rw [if_neg y]; split <;> omega
/-- inside a token all goes on; behind it nothing does -/
theorem ln_in (hi : i < N) (h1 : i < j) (h2 : j < i + ln N T i) : cont T j = true := by
  obtain ⟨j, rfl⟩ : ∃ q, j = q + 1 := ⟨j - 1, by omega⟩
  unfold ln at h2
  show ((isD (T j) && isD (T (j + 1))) || ((isL (T j) && isL (T (j + 1))) || (decide (T j = 60 ∨ T j = 62) && decide (T (j + 1) = 61)))) = true
  by_cases z : isD (T i) = true
  · rw [if_pos z] at h2
    rw [rn_in isD T i (N - i) j (by omega) (by omega), rn_in isD T i (N - i) (j + 1) (by omega) (by omega)]; rfl
  · rw [if_neg z] at h2
    by_cases y : isL (T i) = true
    · rw [if_pos y] at h2
      rw [rn_in isL T i (N - i) j (by omega) (by omega), rn_in isL T i (N - i) (j + 1) (by omega) (by omega)]; simp
    · rw [if_neg y] at h2
      by_cases x : (T i = 60 ∨ T i = 62) ∧ i + 1 < N ∧ T (i + 1) = 61
      · rw [if_pos x] at h2
        have e : j = i := by omega
        subst e
        rw [decide_eq_true x.1, decide_eq_true x.2.2]; simp
      · rw [if_neg x] at h2; omega
theorem cont_no (h1 : isD (T j) = false) (h2 : isL (T j) = false) (h3 : ¬ (T j = 60 ∨ T j = 62)) : cont T (j + 1) = false := by
  show ((isD (T j) && isD (T (j + 1))) || ((isL (T j) && isL (T (j + 1))) || (decide (T j = 60 ∨ T j = 62) && decide (T (j + 1) = 61)))) = false
  rw [h1, h2, decide_eq_false h3]; rfl
theorem ln_end (hi : i < N) (he : i + ln N T i < N) : cont T (i + ln N T i) = false := by
  have hp := ln_pos (T := T) hi
  obtain ⟨m, hm⟩ : ∃ m, ln N T i = m + 1 := ⟨ln N T i - 1, by omega⟩
  rw [hm] at he ⊢
  show ((isD (T (i + m)) && isD (T (i + m + 1))) || ((isL (T (i + m)) && isL (T (i + m + 1))) || (decide (T (i + m) = 60 ∨ T (i + m) = 62) && decide (T (i + m + 1) = 61)))) = false
  unfold ln at hm
  by_cases z : isD (T i) = true
  · rw [if_pos z] at hm
    have e1 := rn_in isD T i (N - i) (i + m) (by omega) (by omega)
    have e2 := rn_end isD T i (N - i) (by omega)
    rw [hm, ← Nat.add_assoc] at e2
    rw [e2, isD_L e1, decide_eq_false (fun q => by have := D32 e1; omega)]; simp
  · rw [if_neg z] at hm
    by_cases y : isL (T i) = true
    · rw [if_pos y] at hm
      have e1 := rn_in isL T i (N - i) (i + m) (by omega) (by omega)
      have e2 := rn_end isL T i (N - i) (by omega)
      rw [hm, ← Nat.add_assoc] at e2
      have e3 : isD (T (i + m)) = false := by
        cases h : isD (T (i + m))
        · rfl
        · rw [isD_L h] at e1; cases e1
      rw [e2, e3, decide_eq_false (fun q => by have := L32 e1; omega)]; simp
    · rw [if_neg y] at hm
      have z' : isD (T i) = false := by simpa using z
      have y' : isL (T i) = false := by simpa using y
      by_cases x : (T i = 60 ∨ T i = 62) ∧ i + 1 < N ∧ T (i + 1) = 61
      · rw [if_pos x] at hm
        have e : m = 1 := by omega
        subst e
        rw [x.2.2]; simp [isD, isL]
      · rw [if_neg x] at hm
        have e : m = 0 := by omega
        subst e
        rw [Nat.add_zero, z', y']
        by_cases u : T i = 60 ∨ T i = 62
        · rw [decide_eq_false (p := T (i + 1) = 61) (fun q => x ⟨u, by omega, q⟩)]; simp
        · rw [decide_eq_false u]; simp
theorem tp_ok (hk : k < tK N T) : tp N T k < N ∧ stt T (tp N T k) = true ∧ rowC (stt T) (tp N T k) = k := by
  unfold tp; rw [if_pos hk]; exact enu_ok (stt T) hk
theorem tp_le (k : Nat) : tp N T k ≤ N := by
  by_cases hk : k < tK N T
  · exact Nat.le_of_lt (tp_ok hk).1
  · unfold tp; rw [if_neg hk]; exact Nat.le_refl _
theorem stt_ok (h : stt T i = true) : T i ≠ 32 ∧ cont T i = false := by
  unfold stt at h
  simp only [Bool.and_eq_true, Bool.not_eq_true', decide_eq_false_iff_not] at h
  exact h
theorem tp_lt (hk : k < tK N T) : tp N T k < tp N T (k + 1) := by
  have h1 := tp_ok hk
  by_cases z : k + 1 < tK N T
  · have h2 := tp_ok z
    rcases Nat.lt_or_ge (tp N T k) (tp N T (k + 1)) with y | y
    · exact y
    · have := rowC_mono (stt T) (k := tp N T (k + 1)) (d := tp N T k - tp N T (k + 1))
      rw [show tp N T (k + 1) + (tp N T k - tp N T (k + 1)) = tp N T k by omega] at this
      omega
  · have : tp N T (k + 1) = N := by unfold tp; rw [if_neg z]
    omega
/-- between two tokens nothing starts -/
theorem tp_none (hk : k < tK N T) (h1 : tp N T k < j) (h2 : j < tp N T (k + 1)) : stt T j = false := by
  cases h : stt T j with
  | false => rfl
  | true =>
    have a := tp_ok hk
    have hj := rowC_lt (stt T) h1 a.2.1
    by_cases z : k + 1 < tK N T
    · have b := tp_ok z
      have := rowC_lt (stt T) h2 h
      omega
    · have e : tp N T (k + 1) = N := by unfold tp; rw [if_neg z]
      rw [e] at h2
      have := rowC_lt (stt T) h2 h
      unfold tK at z hk
      omega
theorem tk_end (hk : k < tK N T) : tp N T k + ln N T (tp N T k) ≤ tp N T (k + 1) := by
  have a := tp_ok hk
  rcases Nat.lt_or_ge (tp N T (k + 1)) (tp N T k + ln N T (tp N T k)) with z | z
  · exfalso
    have h1 := tp_lt hk
    have hc := ln_in a.1 h1 z
    by_cases y : k + 1 < tK N T
    · have b := stt_ok (tp_ok y).2.1
      rw [hc] at b; cases b.2
    · have e : tp N T (k + 1) = N := by unfold tp; rw [if_neg y]
      have := ln_le (T := T) a.1
      omega
  · exact z
theorem tk_gap (hk : k < tK N T) : ∀ j, tp N T k + ln N T (tp N T k) ≤ j → j < tp N T (k + 1) → T j = 32 := by
  have a := tp_ok hk
  have hp := ln_pos (T := T) a.1
  have hN := tp_le (N := N) (T := T) (k + 1)
  have key : ∀ d, tp N T k + ln N T (tp N T k) + d < tp N T (k + 1) → T (tp N T k + ln N T (tp N T k) + d) = 32 := by
    intro d
    induction d with
    | zero =>
      intro h
      have h1 := tp_none hk (j := tp N T k + ln N T (tp N T k)) (by omega) h
      have h2 := ln_end (T := T) a.1 (by omega)
      unfold stt at h1
      rw [h2] at h1
      simpa using h1
    | succ d ih =>
      intro h
      have ih := ih (by omega)
      have h1 := tp_none hk (j := tp N T k + ln N T (tp N T k) + (d + 1)) (by omega) h
      have h2 : cont T (tp N T k + ln N T (tp N T k) + d + 1) = false := cont_no (by rw [ih]; decide) (by rw [ih]; decide) (by rw [ih]; decide)
      unfold stt at h1
      rw [show tp N T k + ln N T (tp N T k) + (d + 1) = tp N T k + ln N T (tp N T k) + d + 1 by omega] at h1 ⊢
      rw [h2] at h1
      simpa using h1
  intro j h1 h2
  obtain ⟨d, rfl⟩ : ∃ d, j = tp N T k + ln N T (tp N T k) + d := ⟨j - (tp N T k + ln N T (tp N T k)), by omega⟩
  exact key d h2
/-- the first token -/
theorem tk_first : ∀ j, j < tp N T 0 → T j = 32 := by
  have key : ∀ d, d < tp N T 0 → T d = 32 ∧ cont T d = false := by
    intro d
    induction d with
    | zero =>
      intro h
      refine ⟨?_, rfl⟩
      have hs : stt T 0 = false := by
        cases h0 : stt T 0 with
        | false => rfl
        | true =>
          have hN := tp_le (N := N) (T := T) 0
          have hlt := rowC_lt (stt T) (show 0 < N by omega) h0
          have : tp N T 0 = 0 := by
            unfold tp; rw [if_pos (show 0 < tK N T from hlt)]; exact enu_at (stt T) (by omega) h0
          omega
      unfold stt at hs
      simpa [cont] using hs
    | succ d ih =>
      intro h
      obtain ⟨i1, -⟩ := ih (by omega)
      have hc : cont T (d + 1) = false := cont_no (by rw [i1]; decide) (by rw [i1]; decide) (by rw [i1]; decide)
      refine ⟨?_, hc⟩
      have hs : stt T (d + 1) = false := by
        cases h0 : stt T (d + 1) with
        | false => rfl
        | true =>
          have hN := tp_le (N := N) (T := T) 0
          have hlt := rowC_lt (stt T) (show d + 1 < N by omega) h0
          by_cases z : 0 < tK N T
          · have a := tp_ok z
            have := rowC_lt (stt T) h h0
            omega
          · unfold tK at z; omega
      unfold stt at hs
      rw [hc] at hs
      simpa using hs
  exact fun j hj => (key j hj).1
end
/-- numbers and words -/
def dv (T : Nat → Nat) (i : Nat) : Nat → Int32
  | 0 => 0
  | m + 1 => if m < 5 then (dv T i m * 10 + nI (T (i + m))) - 48 else -1
def nuv (N : Nat) (T : Nat → Nat) (i : Nat) : Int32 := if i < N ∧ isD (T i) = true then dv T i (rn isD T i (N - i)) else 0
def wd (N : Nat) (T : Nat → Nat) (S : List Nat) (i : Nat) : Bool := decide (rn isL T i (N - i) = S.length ∧ ∀ j, j < S.length → T (i + j) = S.getD j 0)
def wcd (wl : List (List Nat)) (N : Nat) (T : Nat → Nat) (i : Nat) : Int32 := match ff (fun k => wd N T (wl.getD k []) i) wl.length 0 with | some k => nI (300 + k) | none => 258
def syv (wl : List (List Nat)) (N : Nat) (T : Nat → Nat) (i : Nat) : Int32 :=
  if i < N then (if isD (T i) then 256 else if isL (T i) then wcd wl N T i else if (T i = 60 ∨ T i = 62) ∧ i + 1 < N ∧ T (i + 1) = 61 then (if T i = 60 then 259 else 260) else nI (T i)) else 257
