/-! PURE 98k: a row that comes round. -/
/-- of more numbers than there are values two are the same -/
theorem pig : ∀ (N : Nat) (f : Nat → Nat), (∀ i, i ≤ N → f i < N) → ∃ i j, i < j ∧ j ≤ N ∧ f i = f j
  | 0, f, h => absurd (h 0 (Nat.le_refl 0)) (Nat.not_lt_zero _)
  | N + 1, f, h => by
    by_cases hx : ∃ i, i ≤ N ∧ f i = f (N + 1)
    · obtain ⟨i, h1, h2⟩ := hx
      exact ⟨i, N + 1, by omega, Nat.le_refl _, h2⟩
    · have ne : ∀ i, i ≤ N → f i ≠ f (N + 1) := fun i hi e => hx ⟨i, hi, e⟩
      have hl := h (N + 1) (Nat.le_refl _)
      obtain ⟨i, j, h1, h2, h3⟩ := pig N (fun i => if f (N + 1) < f i then f i - 1 else f i) (fun i hi => by
        have h1 := h i (by omega)
        have h2 := ne i hi
        show (if f (N + 1) < f i then f i - 1 else f i) < N
        split <;> omega)
      refine ⟨i, j, h1, by omega, ?_⟩
      have n1 := ne i (by omega)
      have n2 := ne j (by omega)
      have h3' : (if f (N + 1) < f i then f i - 1 else f i) = (if f (N + 1) < f j then f j - 1 else f j) := h3
      by_cases z1 : f (N + 1) < f i <;> by_cases z2 : f (N + 1) < f j
      · rw [if_pos z1, if_pos z2] at h3'; omega
      · rw [if_pos z1, if_neg z2] at h3'; omega
      · rw [if_neg z1, if_pos z2] at h3'; omega
      · rw [if_neg z1, if_neg z2] at h3'; omega
def stepS (L : Nat) (H x : Int32) (s : Int32 × Nat) : Int32 × Nat :=
  (warmI s.1 (nI ((4 * (s.2 / 4) + (if s.1 = x then s.2 % 4 else if x ≤ s.1 then 0 else 3)) / 4 ^ L % 4)) H 0, (4 * (4 * (s.2 / 4) + (if s.1 = x then s.2 % 4 else if x ≤ s.1 then 0 else 3)) + (4 * (s.2 / 4) + (if s.1 = x then s.2 % 4 else if x ≤ s.1 then 0 else 3)) % 4) % 16384)
def swS (L : Nat) (H x : Int32) (s : Int32 × Nat) : Nat → Int32 × Nat
  | 0 => s
  | i + 1 => stepS L H x (swS L H x s i)
section
variable {L : Nat} {H x : Int32} {s : Int32 × Nat}
theorem sw_ok (hs : bd s.1 0 60 ∧ s.2 < 16384) : ∀ i, bd (swS L H x s i).1 0 60 ∧ (swS L H x s i).2 < 16384
  | 0 => hs
  | i + 1 => ⟨warm_bd _ _ _ _, Nat.mod_lt _ (by decide)⟩
theorem sw_per {a p : Nat} (h : swS L H x s (a + p) = swS L H x s a) : ∀ i, swS L H x s (a + i + p) = swS L H x s (a + i)
  | 0 => h
  | i + 1 => by
    have ih := sw_per h i
    show swS L H x s (a + (i + 1) + p) = stepS L H x (swS L H x s (a + i))
    rw [show a + (i + 1) + p = (a + i + p) + 1 by omega]
    show stepS L H x _ = _
    rw [ih]
theorem sw_pk {a p : Nat} (h : swS L H x s (a + p) = swS L H x s a) (i : Nat) : ∀ k, swS L H x s (a + i + k * p) = swS L H x s (a + i)
  | 0 => by rw [Nat.zero_mul, Nat.add_zero]
  | k + 1 => by
    have ih := sw_pk h i k
    rw [Nat.succ_mul, show a + i + (k * p + p) = a + (i + k * p) + p by omega, sw_per h, show a + (i + k * p) = a + i + k * p by omega, ih]
theorem sw_round (hs : bd s.1 0 60 ∧ s.2 < 16384) : ∃ a p, 0 < p ∧ a + p ≤ 999424 ∧ swS L H x s (a + p) = swS L H x s a := by
  obtain ⟨i, j, h1, h2, h3⟩ := pig 999424 (fun i => (swS L H x s i).1.toInt.toNat * 16384 + (swS L H x s i).2) (fun i _ => by
    have hb := sw_ok (L := L) (H := H) (x := x) hs i
    have b1 := hb.1.1
    have b2 := hb.1.2
    have b3 := hb.2
    show (swS L H x s i).1.toInt.toNat * 16384 + (swS L H x s i).2 < 999424
    omega)
  refine ⟨i, j - i, by omega, by omega, ?_⟩
  rw [show i + (j - i) = j by omega]
  have bi := sw_ok (L := L) (H := H) (x := x) hs i
  have bj := sw_ok (L := L) (H := H) (x := x) hs j
  have h3' : (swS L H x s i).1.toInt.toNat * 16384 + (swS L H x s i).2 = (swS L H x s j).1.toInt.toNat * 16384 + (swS L H x s j).2 := h3
  have i1 := bi.1.1
  have i2 := bi.1.2
  have j1 := bj.1.1
  have j2 := bj.1.2
  have k1 := bi.2
  have k2 := bj.2
  refine Prod.ext ?_ ?_
  · rw [I_eq]; omega
  · omega
/-- the greatest from a on, met again and again; the least -/
def Top (W : Nat → Int32) (M : Int32) : Prop := (∃ a, ∀ i, a ≤ i → W i ≤ M) ∧ ∀ b, ∃ i, b ≤ i ∧ W i = M
def Bot (W : Nat → Int32) (M : Int32) : Prop := (∃ a, ∀ i, a ≤ i → M ≤ W i) ∧ ∀ b, ∃ i, b ≤ i ∧ W i = M
theorem Top.un {W : Nat → Int32} {M M' : Int32} (p : Top W M) (q : Top W M') : M = M' := by
  obtain ⟨⟨a, ha⟩, hb⟩ := p
  obtain ⟨⟨a', ha'⟩, hb'⟩ := q
  obtain ⟨i, h1, h2⟩ := hb a'
  obtain ⟨j, h3, h4⟩ := hb' a
  have e1 := ha' i h1
  have e2 := ha j h3
  rw [h2] at e1; rw [h4] at e2
  rw [I_le] at e1 e2
  rw [I_eq]; omega
theorem Bot.un {W : Nat → Int32} {M M' : Int32} (p : Bot W M) (q : Bot W M') : M = M' := by
  obtain ⟨⟨a, ha⟩, hb⟩ := p
  obtain ⟨⟨a', ha'⟩, hb'⟩ := q
  obtain ⟨i, h1, h2⟩ := hb a'
  obtain ⟨j, h3, h4⟩ := hb' a
  have e1 := ha' i h1
  have e2 := ha j h3
  rw [h2] at e1; rw [h4] at e2
  rw [I_le] at e1 e2
  rw [I_eq]; omega
/-- the greatest and the least of one round -/
def MxO (W : Nat → Int32) (a b : Nat) (M : Int32) : Prop := (∀ i, a ≤ i → i < b → W i ≤ M) ∧ ∃ i, a ≤ i ∧ i < b ∧ W i = M
def MnO (W : Nat → Int32) (a b : Nat) (M : Int32) : Prop := (∀ i, a ≤ i → i < b → M ≤ W i) ∧ ∃ i, a ≤ i ∧ i < b ∧ W i = M
theorem sw_in {a p : Nat} (hp : 0 < p) (h : swS L H x s (a + p) = swS L H x s a) {i : Nat} (hi : a ≤ i) : ∃ j, a ≤ j ∧ j < a + p ∧ swS L H x s i = swS L H x s j := by
  refine ⟨a + (i - a) % p, by omega, by have := Nat.mod_lt (i - a) hp; omega, ?_⟩
  have := sw_pk h ((i - a) % p) ((i - a) / p)
  rw [← this]
  congr 1
  have := Nat.mod_add_div (i - a) p
  rw [Nat.mul_comm] at this
  omega
theorem MxO.top {a p : Nat} {M : Int32} (hp : 0 < p) (h : swS L H x s (a + p) = swS L H x s a) (q : MxO (fun i => (swS L H x s i).1) a (a + p) M) : Top (fun i => (swS L H x s i).1) M := by
  refine ⟨⟨a, fun i hi => ?_⟩, fun b => ?_⟩
  · obtain ⟨j, h1, h2, h3⟩ := sw_in hp h hi
    show (swS L H x s i).1 ≤ M
    rw [h3]; exact q.1 j h1 h2
  · obtain ⟨i, h1, h2, h3⟩ := q.2
    refine ⟨a + (i - a) + b * p, by have := Nat.le_mul_of_pos_right b hp; omega, ?_⟩
    show (swS L H x s _).1 = M
    rw [sw_pk h, show a + (i - a) = i by omega]; exact h3
theorem MnO.bot {a p : Nat} {M : Int32} (hp : 0 < p) (h : swS L H x s (a + p) = swS L H x s a) (q : MnO (fun i => (swS L H x s i).1) a (a + p) M) : Bot (fun i => (swS L H x s i).1) M := by
  refine ⟨⟨a, fun i hi => ?_⟩, fun b => ?_⟩
  · obtain ⟨j, h1, h2, h3⟩ := sw_in hp h hi
    show M ≤ (swS L H x s i).1
    rw [h3]; exact q.1 j h1 h2
  · obtain ⟨i, h1, h2, h3⟩ := q.2
    refine ⟨a + (i - a) + b * p, by have := Nat.le_mul_of_pos_right b hp; omega, ?_⟩
    show (swS L H x s _).1 = M
    rw [sw_pk h, show a + (i - a) = i by omega]; exact h3
theorem I_ler {a : Int32} : a ≤ a := by rw [I_le]; omega
theorem MxO.one (W : Nat → Int32) (a : Nat) : MxO W a (a + 1) (W a) := ⟨fun i h1 h2 => by rw [show i = a by omega]; exact I_ler, a, by omega, by omega, rfl⟩
theorem MnO.one (W : Nat → Int32) (a : Nat) : MnO W a (a + 1) (W a) := ⟨fun i h1 h2 => by rw [show i = a by omega]; exact I_ler, a, by omega, by omega, rfl⟩
theorem MxO.up {W : Nat → Int32} {a b : Nat} {M : Int32} (q : MxO W a b M) (hab : a ≤ b) : MxO W a (b + 1) (if M < W b then W b else M) := by
  by_cases z : M < W b
  · rw [if_pos z]
    refine ⟨fun i h1 h2 => ?_, b, hab, by omega, rfl⟩
    by_cases e : i = b
    · subst e; exact I_ler
    · have := q.1 i h1 (by omega)
      rw [I_le] at this ⊢; rw [I_lt] at z; omega
  · rw [if_neg z]
    refine ⟨fun i h1 h2 => ?_, q.2.imp (fun i hi => ⟨hi.1, by omega, hi.2.2⟩)⟩
    by_cases e : i = b
    · subst e; rw [I_le]; rw [I_lt] at z; omega
    · exact q.1 i h1 (by omega)
theorem MnO.up {W : Nat → Int32} {a b : Nat} {M : Int32} (q : MnO W a b M) (hab : a ≤ b) : MnO W a (b + 1) (if W b < M then W b else M) := by
  by_cases z : W b < M
  · rw [if_pos z]
    refine ⟨fun i h1 h2 => ?_, b, hab, by omega, rfl⟩
    by_cases e : i = b
    · subst e; exact I_ler
    · have := q.1 i h1 (by omega)
      rw [I_le] at this ⊢; rw [I_lt] at z; omega
  · rw [if_neg z]
    refine ⟨fun i h1 h2 => ?_, q.2.imp (fun i hi => ⟨hi.1, by omega, hi.2.2⟩)⟩
    by_cases e : i = b
    · subst e; rw [I_le]; rw [I_lt] at z; omega
    · exact q.1 i h1 (by omega)
end
