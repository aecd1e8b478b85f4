/-! PURE 98v: who sits where: rows of those who are picked, the least of all ways. -/
/-- the k-th of those picked -/
def enu (f : Nat → Bool) (N k : Nat) : Nat := (ff (fun q => f q && decide (rowC f q = k)) N 0).getD 0
theorem rowC_mono (f : Nat → Bool) : ∀ {d k : Nat}, rowC f k ≤ rowC f (k + d)
  | 0, k => Nat.le_refl _
  | d + 1, k => by
    have := rowC_mono f (d := d) (k := k)
    rw [show k + (d + 1) = (k + d) + 1 by omega, rowC_s]
    omega
theorem rowC_lt (f : Nat → Bool) {q r : Nat} (h : q < r) (hq : f q = true) : rowC f q < rowC f r := by
  have h1 := rowC_mono f (k := q + 1) (d := r - (q + 1))
  rw [show q + 1 + (r - (q + 1)) = r by omega, rowC_s, if_pos hq] at h1
  omega
theorem rowC_inj (f : Nat → Bool) {q r : Nat} (hq : f q = true) (hr : f r = true) (e : rowC f q = rowC f r) : q = r := by
  rcases Nat.lt_trichotomy q r with z | z | z
  · have := rowC_lt f z hq; omega
  · exact z
  · have := rowC_lt f z hr; omega
theorem rowC_on (f : Nat → Bool) : ∀ {N k : Nat}, k < rowC f N → ∃ q, q < N ∧ f q = true ∧ rowC f q = k
  | 0, k, h => absurd h (Nat.not_lt_zero k)
  | N + 1, k, h => by
    rw [rowC_s] at h
    by_cases z : k < rowC f N
    · obtain ⟨q, h1, h2, h3⟩ := rowC_on f z
      exact ⟨q, by omega, h2, h3⟩
    · by_cases y : f N = true
      · rw [if_pos y] at h
        exact ⟨N, by omega, y, by omega⟩
      · rw [if_neg y] at h; omega
theorem enu_at (f : Nat → Bool) {N q : Nat} (hq : q < N) (h : f q = true) : enu f N (rowC f q) = q := by
  unfold enu
  cases hff : ff (fun r => f r && decide (rowC f r = rowC f q)) N 0 with
  | none =>
    have := ff_none hff q (Nat.zero_le _) (by omega)
    simp [h] at this
  | some r =>
    obtain ⟨-, -, h3, -⟩ := ff_some hff
    simp only [Bool.and_eq_true, decide_eq_true_eq] at h3
    exact rowC_inj f h3.1 h h3.2
theorem enu_ok (f : Nat → Bool) {N k : Nat} (hk : k < rowC f N) : enu f N k < N ∧ f (enu f N k) = true ∧ rowC f (enu f N k) = k := by
  obtain ⟨q, h1, h2, h3⟩ := rowC_on f hk
  have := enu_at f h1 h2
  rw [h3] at this
  rw [this]; exact ⟨h1, h2, h3⟩
theorem fs_comp {α : Type} (f : Nat → Bool) (F : Nat → α → α) (M : Nat) (a : α) : ∀ N, N ≤ M → fs (fun s x => if f s then F s x else x) N 0 a = fs (fun j x => F (enu f M j) x) (rowC f N) 0 a
  | 0, _ => rfl
  | N + 1, h => by
    rw [fs_snoc, Nat.zero_add, fs_comp f F M a N (by omega), rowC_s]
    by_cases z : f N = true
    · rw [if_pos z, if_pos z, fs_snoc, Nat.zero_add, enu_at f (by omega) z]
    · rw [if_neg z, if_neg z, Nat.add_zero]
/-- how many, with one more -/
theorem rowC_cong {f g : Nat → Bool} : ∀ {N : Nat}, (∀ s, s < N → f s = g s) → rowC f N = rowC g N
  | 0, _ => rfl
  | N + 1, h => by rw [rowC_s, rowC_s, rowC_cong (fun s hs => h s (by omega)), h N (by omega)]
theorem rowC_one {f g : Nat → Bool} {s0 : Nat} (h0 : f s0 = false) (hg : ∀ s, g s = (f s || decide (s = s0))) : ∀ N, rowC g N = rowC f N + if s0 < N then 1 else 0
  | 0 => rfl
  | N + 1 => by
    rw [rowC_s, rowC_s, rowC_one h0 hg N, hg]
    by_cases z : N = s0
    · subst z
      rw [h0, if_neg (Nat.lt_irrefl _), if_pos (Nat.lt_succ_self _)]
      simp
    · rw [decide_eq_false z, Bool.or_false]
      by_cases y : s0 < N
      · rw [if_pos y, if_pos (show s0 < N + 1 by omega)]; omega
      · rw [if_neg y, if_neg (show ¬ s0 < N + 1 by omega)]; omega
theorem rowC_app (f : Nat → Bool) {N : Nat} : ∀ d, (∀ s, N ≤ s → f s = false) → rowC f (N + d) = rowC f N
  | 0, _ => rfl
  | d + 1, h => by rw [show N + (d + 1) = (N + d) + 1 by omega, rowC_s, rowC_app f d h, if_neg (by rw [h _ (by omega)]; decide), Nat.add_zero]
def pc (S : Nat) : Nat := rowC S.testBit 8
theorem pc_up {S s : Nat} (hs : s < 8) (h : S.testBit s = false) : pc (S ||| 2 ^ s) = pc S + 1 := by
  unfold pc
  rw [rowC_one h (fun r => by rw [Nat.testBit_or, Nat.testBit_two_pow]; congr 1; exact decide_eq_decide.mpr eq_comm) 8, if_pos hs]
/-- the least, or none -/
def stp (acc c r : Option Nat) : Option Nat := match c, r with
  | some a, some b => (match acc with | none => some (a + b) | some m => if a + b < m then some (a + b) else some m)
  | _, _ => acc
def Wd (oc : Nat → Bool) (co : Nat → Nat → Option Nat) (n : Nat) : Nat → Nat → Option Nat
  | 0, _ => some 0
  | d + 1, S => fs (fun s a => if oc s && !S.testBit s then stp a (co (n - (d + 1)) s) (Wd oc co n d (S ||| 2 ^ s)) else a) 8 0 none
def Wt (oc : Nat → Bool) (co : Nat → Nat → Option Nat) (n S : Nat) : Option Nat := Wd oc co n (n - pc S) S
def small (o : Option Nat) (B : Nat) : Prop := ∀ m, o = some m → m ≤ B
theorem stp_small {acc c r : Option Nat} {B C D : Nat} (h1 : small acc B) (h2 : small c C) (h3 : small r D) (h : C + D ≤ B) : small (stp acc c r) B := by
  intro m hm
  unfold stp at hm
  cases c with
  | none => exact h1 m hm
  | some a =>
    cases r with
    | none => exact h1 m hm
    | some b =>
      have ha := h2 a rfl
      have hb := h3 b rfl
      cases acc with
      | none => simp at hm; omega
      | some k =>
        have hk := h1 k rfl
        simp only at hm
        by_cases z : a + b < k
        · rw [if_pos z] at hm; cases hm; omega
        · rw [if_neg z] at hm; cases hm; omega
theorem Wd_small {oc : Nat → Bool} {co : Nat → Nat → Option Nat} (hco : ∀ k s, small (co k s) 10000) (n : Nat) : ∀ d S, small (Wd oc co n d S) (10000 * d)
  | 0, S => fun m hm => by cases hm; omega
  | d + 1, S => by
    have ih := Wd_small (oc := oc) hco n d
    refine fs_inv (P := fun _ a => small a (10000 * (d + 1))) (fun m hm => by cases hm) (fun j _ _ x hx => ?_)
    by_cases z : (oc j && !S.testBit j) = true
    · rw [if_pos z]; exact stp_small hx (hco _ _) (ih _) (by omega)
    · rw [if_neg z]; exact hx
theorem Wt_small {oc : Nat → Bool} {co : Nat → Nat → Option Nat} (hco : ∀ k s, small (co k s) 10000) {n : Nat} (hn : n ≤ 8) (S : Nat) : small (Wt oc co n S) 80000 := fun m hm => by
  have := Wd_small (oc := oc) hco n (n - pc S) S m hm
  omega
theorem Wt_full {oc : Nat → Bool} {co : Nat → Nat → Option Nat} {n S : Nat} (h : n ≤ pc S) : Wt oc co n S = some 0 := by
  unfold Wt; rw [show n - pc S = 0 by omega]; rfl
theorem Wt_step {oc : Nat → Bool} {co : Nat → Nat → Option Nat} {n S : Nat} (h : pc S < n) : Wt oc co n S = fs (fun s a => if oc s && !S.testBit s then stp a (co (pc S) s) (Wt oc co n (S ||| 2 ^ s)) else a) 8 0 none := by
  obtain ⟨d, hd⟩ : ∃ d, n - pc S = d + 1 := ⟨n - pc S - 1, by omega⟩
  have e : Wt oc co n S = Wd oc co n (d + 1) S := by unfold Wt; rw [hd]
  rw [e]
  show fs (fun s a => if oc s && !S.testBit s then stp a (co (n - (d + 1)) s) (Wd oc co n d (S ||| 2 ^ s)) else a) 8 0 none = _
  refine fs_cong (fun s _ hs x => ?_)
  by_cases z : (oc s && !S.testBit s) = true
  · rw [if_pos z, if_pos z, show n - (d + 1) = pc S by omega]
    have hb : S.testBit s = false := by simp only [Bool.and_eq_true, Bool.not_eq_true'] at z; exact z.2
    unfold Wt
    rw [pc_up (by omega) hb, show n - (pc S + 1) = d by omega]
  · rw [if_neg z, if_neg z]
/-- a least that is there is met by somebody, first of all by one -/
theorem stp_ge {acc c r : Option Nat} {m : Nat} (h : stp acc c r = some m) : (acc = some m ∨ ∃ a b, c = some a ∧ r = some b ∧ a + b = m) := by
  unfold stp at h
  cases c with
  | none => exact Or.inl h
  | some a =>
    cases r with
    | none => exact Or.inl h
    | some b =>
      cases acc with
      | none => simp at h; exact Or.inr ⟨a, b, rfl, rfl, h⟩
      | some k =>
        simp only at h
        by_cases z : a + b < k
        · rw [if_pos z] at h; exact Or.inr ⟨a, b, rfl, rfl, Option.some.inj h⟩
        · rw [if_neg z] at h; exact Or.inl h
theorem fs_met {g : Nat → Bool} {c r : Nat → Option Nat} : ∀ {N : Nat} {m : Nat}, fs (fun s a => if g s then stp a (c s) (r s) else a) N 0 none = some m → ∃ s, s < N ∧ g s = true ∧ ∃ a b, c s = some a ∧ r s = some b ∧ a + b = m
  | 0, m, h => by cases h
  | N + 1, m, h => by
    rw [fs_snoc, Nat.zero_add] at h
    by_cases z : g N = true
    · rw [if_pos z] at h
      rcases stp_ge h with y | y
      · obtain ⟨s, h1, h2⟩ := fs_met y
        exact ⟨s, by omega, h2⟩
      · exact ⟨N, by omega, z, y⟩
    · rw [if_neg z] at h
      obtain ⟨s, h1, h2⟩ := fs_met h
      exact ⟨s, by omega, h2⟩
/-- rows of indices as rows of seats -/
def phi (oc : Nat → Bool) (T : Nat) : Nat := rowN (fun s => oc s && T.testBit (rowC oc s)) 8
theorem phi_lt (oc : Nat → Bool) (T : Nat) : phi oc T < 256 := rowN_lt _ 8
theorem phi_bit (oc : Nat → Bool) (T : Nat) {s : Nat} (hs : s < 8) : (phi oc T).testBit s = (oc s && T.testBit (rowC oc s)) := rowN_bit _ _ _ hs
theorem phi_0 (oc : Nat → Bool) : phi oc 0 = 0 := by
  refine Nat.eq_of_testBit_eq (fun s => ?_)
  by_cases hs : s < 8
  · rw [phi_bit oc 0 hs]; simp
  · rw [Nat.testBit_lt_two_pow (Nat.lt_of_lt_of_le (phi_lt oc 0) (Nat.pow_le_pow_right (n := 2) (i := 8) (by decide) (by omega)))]; simp
theorem phi_or (oc : Nat → Bool) (T : Nat) {s0 : Nat} (hs0 : s0 < 8) (h0 : oc s0 = true) : phi oc (T ||| 2 ^ rowC oc s0) = phi oc T ||| 2 ^ s0 := by
  refine Nat.eq_of_testBit_eq (fun s => ?_)
  by_cases hs : s < 8
  · rw [phi_bit oc _ hs, Nat.testBit_or, Nat.testBit_or, phi_bit oc T hs, Nat.testBit_two_pow, Nat.testBit_two_pow]
    by_cases z : oc s = true
    · rw [z, Bool.true_and, Bool.true_and]
      congr 1
      refine decide_eq_decide.mpr ⟨fun e => (rowC_inj oc z h0 e.symm).symm, fun e => by rw [e]⟩
    · have z' : oc s = false := by simpa using z
      rw [z', Bool.false_and, Bool.false_and, decide_eq_false (fun e => by subst e; rw [h0] at z'; cases z')]; rfl
  · have h1 : 2 ^ s0 < 256 := Nat.pow_lt_pow_right (a := 2) (by decide) (show s0 < 8 from hs0)
    have h2 : phi oc T ||| 2 ^ s0 < 2 ^ 8 := Nat.or_lt_two_pow (phi_lt oc T) h1
    have hp : 2 ^ 8 ≤ 2 ^ s := Nat.pow_le_pow_right (by decide) (by omega)
    rw [Nat.testBit_lt_two_pow (Nat.lt_of_lt_of_le (phi_lt oc _) hp), Nat.testBit_lt_two_pow (Nat.lt_of_lt_of_le h2 hp)]
theorem phi_pc (oc : Nat → Bool) {T : Nat} (hT : T < 2 ^ rowC oc 8) : pc (phi oc T) = pc T := by
  have h8 : rowC oc 8 ≤ 8 := rowC_le oc 8
  have e1 : pc (phi oc T) = rowC (fun s => oc s && T.testBit (rowC oc s)) 8 := rowC_cong (fun s hs => phi_bit oc T hs)
  have e2 : pc T = rowC T.testBit (rowC oc 8) := by
    unfold pc
    have := rowC_app T.testBit (N := rowC oc 8) (8 - rowC oc 8) (fun s hs => Nat.testBit_lt_two_pow (Nat.lt_of_lt_of_le hT (Nat.pow_le_pow_right (by decide) hs)))
    rw [← this, show rowC oc 8 + (8 - rowC oc 8) = 8 by omega]
  rw [e1, e2]
  have e3 := fs_comp oc (fun s (x : Nat) => x + if T.testBit (rowC oc s) then 1 else 0) 8 0 8 (Nat.le_refl _)
  have e4 : rowC (fun s => oc s && T.testBit (rowC oc s)) 8 = fs (fun s x => if oc s then x + (if T.testBit (rowC oc s) then 1 else 0) else x) 8 0 0 := by
    show fs (fun q a => a + if (oc q && T.testBit (rowC oc q)) = true then 1 else 0) 8 0 0 = _
    refine fs_cong (fun s _ _ x => ?_)
    cases oc s
    · rfl
    · rfl
  rw [e4, e3]
  unfold rowC
  refine fs_cong (fun j _ hj x => ?_)
  have := (enu_ok oc (N := 8) (k := j) (by unfold rowC; omega)).2.2
  unfold rowC at this
  rw [this]
