/-! PURE 61: loops; the picture of a train and a cabin. -/
def ff (p : Nat → Bool) : Nat → Nat → Option Nat
  | 0, _ => none
  | d + 1, k => if p k then some k else ff p d (k + 1)
def fs {α : Type} (f : Nat → α → α) : Nat → Nat → α → α
  | 0, _, a => a
  | d + 1, k, a => fs f d (k + 1) (f k a)
theorem ff_cong {p q : Nat → Bool} : ∀ {d k : Nat}, (∀ j, k ≤ j → j < k + d → p j = q j) → ff p d k = ff q d k
  | 0, _, _ => rfl
  | d + 1, k, h => by
    unfold ff
    rw [h k (Nat.le_refl _) (by omega), ff_cong (fun j h1 h2 => h j (by omega) (by omega))]
theorem fs_cong {α : Type} {f g : Nat → α → α} : ∀ {d k : Nat} {a : α}, (∀ j, k ≤ j → j < k + d → ∀ x, f j x = g j x) → fs f d k a = fs g d k a
  | 0, _, _, _ => rfl
  | d + 1, k, a, h => by
    unfold fs
    rw [h k (Nat.le_refl _) (by omega), fs_cong (fun j h1 h2 => h j (by omega) (by omega))]
theorem fs_inv {α : Type} {f : Nat → α → α} {P : Nat → α → Prop} : ∀ {d k : Nat} {a : α}, P k a → (∀ j, k ≤ j → j < k + d → ∀ x, P j x → P (j + 1) (f j x)) → P (k + d) (fs f d k a)
  | 0, _, _, h, _ => h
  | d + 1, k, a, h, hs => by
    unfold fs
    have := fs_inv (P := P) (d := d) (k := k + 1) (hs k (Nat.le_refl _) (by omega) a h) (fun j h1 h2 => hs j (by omega) (by omega))
    rwa [show k + (d + 1) = k + 1 + d by omega]
theorem ff_some {p : Nat → Bool} : ∀ {d k j : Nat}, ff p d k = some j → k ≤ j ∧ j < k + d ∧ p j = true ∧ ∀ i, k ≤ i → i < j → p i = false
  | 0, _, _, h => by cases h
  | d + 1, k, j, h => by
    unfold ff at h
    by_cases hp : p k = true
    · rw [if_pos hp] at h; cases h
      exact ⟨Nat.le_refl _, by omega, hp, fun i h1 h2 => by omega⟩
    · rw [if_neg hp] at h
      obtain ⟨h1, h2, h3, h4⟩ := ff_some h
      refine ⟨by omega, by omega, h3, fun i h5 h6 => ?_⟩
      by_cases e : i = k
      · subst e; simpa using hp
      · exact h4 i (by omega) h6
theorem ff_none {p : Nat → Bool} : ∀ {d k : Nat}, ff p d k = none → ∀ j, k ≤ j → j < k + d → p j = false
  | 0, _, _ => fun j h1 h2 => by omega
  | d + 1, k, h => by
    unfold ff at h
    by_cases hp : p k = true
    · rw [if_pos hp] at h; cases h
    · rw [if_neg hp] at h
      intro j h1 h2
      by_cases e : j = k
      · subst e; simpa using hp
      · exact ff_none h j (by omega) (by omega)
theorem lq1_ff {ρ : Type} {F : (Int32 → AH → Option ρ) → Int32 → AH → Option ρ} {h : AH} {N : Nat} (p : Nat → Bool) (y : Nat → Option ρ) (z : Option ρ) (hE : ∀ self, F self (nI N) h = z) (hY : ∀ self k, k < N → p k = true → F self (nI k) h = y k) (hN : ∀ self k, k < N → p k = false → F self (nI k) h = self (nI k + 1) h) : ∀ {d n k : Nat}, k + d = N → d < n → lq1 F n (nI k) h = match ff p d k with | some j => y j | none => z
  | 0, n + 1, k, e, _ => by
    have : k = N := by omega
    subst this
    show F (lq1 F n) (nI k) h = _
    rw [hE]; rfl
  | d + 1, n + 1, k, e, hn => by
    show F (lq1 F n) (nI k) h = _
    unfold ff
    by_cases hp : p k = true
    · rw [if_pos hp, hY _ k (by omega) hp]
    · rw [if_neg hp, hN _ k (by omega) (by simpa using hp), nI_1, lq1_ff p y z hE hY hN (d := d) (by omega) (by omega)]
theorem lw1_ff {ρ : Type} {F : (Int32 → MS → Option ρ) → Int32 → MS → Option ρ} {h : MS} {N : Nat} (p : Nat → Bool) (y : Nat → Option ρ) (z : Option ρ) (hE : ∀ self, F self (nI N) h = z) (hY : ∀ self k, k < N → p k = true → F self (nI k) h = y k) (hN : ∀ self k, k < N → p k = false → F self (nI k) h = self (nI k + 1) h) : ∀ {d n k : Nat}, k + d = N → d < n → lw1 F n (nI k) h = match ff p d k with | some j => y j | none => z
  | 0, n + 1, k, e, _ => by
    have : k = N := by omega
    subst this
    show F (lw1 F n) (nI k) h = _
    rw [hE]; rfl
  | d + 1, n + 1, k, e, hn => by
    show F (lw1 F n) (nI k) h = _
    unfold ff
    by_cases hp : p k = true
    · rw [if_pos hp, hY _ k (by omega) hp]
    · rw [if_neg hp, hN _ k (by omega) (by simpa using hp), nI_1, lw1_ff p y z hE hY hN (d := d) (by omega) (by omega)]
theorem lq2_fs {α ρ : Type} {F : (α → Int32 → AH → Option ρ) → α → Int32 → AH → Option ρ} {h : AH} {N : Nat} (f : Nat → α → α) (z : α → Option ρ) (hE : ∀ self a, F self a (nI N) h = z a) (hN : ∀ self a k, k < N → F self a (nI k) h = self (f k a) (nI k + 1) h) : ∀ {d n k : Nat} {a : α}, k + d = N → d < n → lq2 F n a (nI k) h = z (fs f d k a)
  | 0, n + 1, k, a, e, _ => by
    have : k = N := by omega
    subst this
    show F (lq2 F n) a (nI k) h = _
    rw [hE]; rfl
  | d + 1, n + 1, k, a, e, hn => by
    show F (lq2 F n) a (nI k) h = _
    unfold fs
    rw [hN _ a k (by omega), nI_1, lq2_fs f z hE hN (d := d) (by omega) (by omega)]
theorem lw2_fs {α ρ : Type} {F : (α → Int32 → MS → Option ρ) → α → Int32 → MS → Option ρ} {h : MS} {N : Nat} (f : Nat → α → α) (z : α → Option ρ) (hE : ∀ self a, F self a (nI N) h = z a) (hN : ∀ self a k, k < N → F self a (nI k) h = self (f k a) (nI k + 1) h) : ∀ {d n k : Nat} {a : α}, k + d = N → d < n → lw2 F n a (nI k) h = z (fs f d k a)
  | 0, n + 1, k, a, e, _ => by
    have : k = N := by omega
    subst this
    show F (lw2 F n) a (nI k) h = _
    rw [hE]; rfl
  | d + 1, n + 1, k, a, e, hn => by
    show F (lw2 F n) a (nI k) h = _
    unfold fs
    rw [hN _ a k (by omega), nI_1, lw2_fs f z hE hN (d := d) (by omega) (by omega)]
theorem lq3_fs {α β ρ : Type} {F : (α → β → Int32 → AH → Option ρ) → α → β → Int32 → AH → Option ρ} {h : AH} {N : Nat} (f : Nat → α × β → α × β) (z : α × β → Option ρ) (hE : ∀ self a b, F self a b (nI N) h = z (a, b)) (hN : ∀ self a b k, k < N → F self a b (nI k) h = self (f k (a, b)).1 (f k (a, b)).2 (nI k + 1) h) : ∀ {d n k : Nat} {a : α} {b : β}, k + d = N → d < n → lq3 F n a b (nI k) h = z (fs f d k (a, b))
  | 0, n + 1, k, a, b, e, _ => by
    have : k = N := by omega
    subst this
    show F (lq3 F n) a b (nI k) h = _
    rw [hE]; rfl
  | d + 1, n + 1, k, a, b, e, hn => by
    show F (lq3 F n) a b (nI k) h = _
    unfold fs
    rw [hN _ a b k (by omega), nI_1, lq3_fs f z hE hN (d := d) (by omega) (by omega)]
theorem lw3_fs {α β ρ : Type} {F : (α → β → Int32 → MS → Option ρ) → α → β → Int32 → MS → Option ρ} {h : MS} {N : Nat} (f : Nat → α × β → α × β) (z : α × β → Option ρ) (hE : ∀ self a b, F self a b (nI N) h = z (a, b)) (hN : ∀ self a b k, k < N → F self a b (nI k) h = self (f k (a, b)).1 (f k (a, b)).2 (nI k + 1) h) : ∀ {d n k : Nat} {a : α} {b : β}, k + d = N → d < n → lw3 F n a b (nI k) h = z (fs f d k (a, b))
  | 0, n + 1, k, a, b, e, _ => by
    have : k = N := by omega
    subst this
    show F (lw3 F n) a b (nI k) h = _
    rw [hE]; rfl
  | d + 1, n + 1, k, a, b, e, hn => by
    show F (lw3 F n) a b (nI k) h = _
    unfold fs
    rw [hN _ a b k (by omega), nI_1, lw3_fs f z hE hN (d := d) (by omega) (by omega)]
theorem bN_gt {d : Nat} (h : d ≤ 1000000) : d < bN := by unfold bN; omega
abbrev VV : Type := Nat → Nat → Int32
/-- how many people, tunnels, colds; the lag -/
def sN (v : VV) : Nat := (v 1 6).toNatClampNeg
def sT (v : VV) : Nat := (v 1 8).toNatClampNeg
def sC (v : VV) : Nat := (v 1 9).toNatClampNeg
def sL (v : VV) : Nat := (v 1 3).toNatClampNeg
def fro (v : VV) (q : Nat) : Int32 := (v 1 7 >>> (nI q &&& 31)) &&& 1
def kv (v : VV) (k : Nat) : Int32 := if k = 0 then v 1 12 else v 2 k
def KV (K : Int32) (v : VV) : Prop := ∃ n : Nat, n < 16384 ∧ K = nI n ∧ ∀ k, k < 7 → kv v k = nI (n / 4 ^ k % 4)
def SP (v : VV) (q : Nat) : Prop := bd (v 3 q) 0 7 ∧ bd (v 4 q) 0 239 ∧ (v 4 q).toInt < (v 5 q).toInt ∧ bd (v 5 q) 1 240 ∧ bd (v 6 q) 0 60 ∧ bd (v 7 q) 0 20 ∧ bd (v 8 q) (-9) 9 ∧ bd (v 9 q) (-1) 7 ∧ (v 10 q = 0 ∨ v 10 q = 1) ∧ (v 9 q ≠ -1 → v 10 q = 1) ∧ ((4 : Int32) ≤ v 9 q → fro v q = 0) ∧ bd (v 11 q) 0 300
/-- a state as it may come about -/
def St (v : VV) : Prop :=
  ((v 1 0 = 0 ∧ v 1 6 = 0) ∨ v 1 0 = 1) ∧ (v 1 6 = nI (sN v) ∧ sN v ≤ 8) ∧ (v 1 8 = nI (sT v) ∧ sT v ≤ 5) ∧ (v 1 9 = nI (sC v) ∧ sC v ≤ 5) ∧ (v 1 3 = nI (sL v) ∧ sL v ≤ 6) ∧
  bd (v 1 10) 0 240 ∧ bd (v 1 11) 0 60 ∧ bd (v 1 13) 0 5 ∧ bd (v 1 1) 0 60 ∧ bd (v 1 2) 0 3 ∧ (∀ k, k < 7 → bd (kv v k) 0 3) ∧
  (∀ k, k < sT v → bd (v 13 k) 0 239 ∧ bd (v 14 k) 0 239) ∧ (∀ k, k < sC v → bd (v 17 k) 1 4) ∧
  (∀ q, q < sN v → SP v q) ∧ ∀ q r, q < sN v → r < sN v → v 9 q ≠ -1 → v 9 q = v 9 r → q = r
/-- who is aboard at the mile -/
def Ab (v : VV) : Prop := ∀ q, q < sN v → v 10 q = (if v 4 q ≤ v 1 10 ∧ v 1 10 < v 5 q then 1 else 0)
/-- nobody is crosser than there were miles -/
def Cr (v : VV) : Prop := ∀ q, q < sN v → (v 11 q).toInt ≤ (v 1 10).toInt
def TrS (h : AH) (t : Nat) : Prop :=
  m_t h t = .inl 9 ∧ m_r h t 6 = some (t + 1) ∧ m_r h t 8 = some (t + 2) ∧ m_r h t 9 = some (t + 3) ∧ m_r h t 11 = some (t + 4) ∧ m_r h t 12 = some (t + 5) ∧ m_r h t 13 = some (t + 6) ∧
  m_t h (t + 1) = .inr (.object RX5, 8) ∧ (m_t h (t + 2) = .inr (.int, 5) ∧ m_t h (t + 3) = .inr (.int, 5) ∧ m_t h (t + 4) = .inr (.int, 5) ∧ m_t h (t + 5) = .inr (.int, 5) ∧ m_t h (t + 6) = .inr (.int, 5)) ∧
  ∀ q, q < 8 → m_r h (t + 1) q = some (t + 7 + q) ∧ m_t h (t + 7 + q) = .inl 5
def TrV (h : AH) (t : Nat) (v : VV) : Prop :=
  m_i h t 0 = v 1 0 ∧ m_i h t 1 = v 1 1 ∧ m_i h t 2 = v 1 2 ∧ m_i h t 3 = v 1 3 ∧ m_i h t 4 = v 1 4 ∧ m_i h t 5 = v 1 6 ∧ m_i h t 7 = v 1 8 ∧ m_i h t 10 = v 1 9 ∧
  (∀ k, k < sT v → m_i h (t + 2) k = v 13 k ∧ m_i h (t + 3) k = v 14 k) ∧
  (∀ k, k < sC v → m_i h (t + 4) k = v 15 k ∧ m_i h (t + 5) k = v 16 k ∧ m_i h (t + 6) k = v 17 k) ∧
  ∀ q, q < sN v → m_i h (t + 7 + q) 0 = v 3 q ∧ m_i h (t + 7 + q) 1 = v 4 q ∧ m_i h (t + 7 + q) 2 = v 5 q ∧ m_i h (t + 7 + q) 3 = v 6 q ∧ m_i h (t + 7 + q) 4 = v 7 q ∧ m_i h (t + 7 + q) 6 = fro v q
def CaS (h : AH) (c : Nat) : Prop :=
  m_t h c = .inl 0 ∧ m_r h c 6 = some (c + 1) ∧ m_r h c 7 = some (c + 2) ∧ m_r h c 8 = some (c + 3) ∧ m_r h c 9 = some (c + 4) ∧
  m_t h (c + 1) = .inr (.int, 8) ∧ m_t h (c + 2) = .inr (.int, 8) ∧ m_t h (c + 3) = .inr (.int, 8) ∧ m_t h (c + 4) = .inr (.int, 8)
def CaV (h : AH) (c : Nat) (v : VV) : Prop :=
  m_i h c 2 = v 1 13 ∧ m_i h c 3 = v 1 11 ∧ m_i h c 4 = v 1 10 ∧ KV (m_i h c 5) v ∧
  ∀ q, q < sN v → m_i h (c + 1) q = v 9 q ∧ m_i h (c + 2) q = v 11 q ∧ m_i h (c + 3) q = v 12 q ∧ m_i h (c + 4) q = v 8 q
def Cab (h : AH) (c t : Nat) (v : VV) : Prop := (CaS h c ∧ m_r h c 0 = some t) ∧ TrS h t ∧ TrV h t v ∧ CaV h c v ∧ (c + 5 ≤ t ∨ t + 15 ≤ c)
section
variable {h : AH} {c t q : Nat} {v : VV}
theorem cab_t (hC : Cab h c t v) : m_t h c = .inl 0 := hC.1.1.1
theorem cab_0 (hC : Cab h c t v) : m_r h c 0 = some t := hC.1.2
theorem cab_6 (hC : Cab h c t v) : m_r h c 6 = some (c + 1) := hC.1.1.2.1
theorem cab_7 (hC : Cab h c t v) : m_r h c 7 = some (c + 2) := hC.1.1.2.2.1
theorem cab_8 (hC : Cab h c t v) : m_r h c 8 = some (c + 3) := hC.1.1.2.2.2.1
theorem cab_9 (hC : Cab h c t v) : m_r h c 9 = some (c + 4) := hC.1.1.2.2.2.2.1
theorem tr_t (hC : Cab h c t v) : m_t h t = .inl 9 := hC.2.1.1
theorem tr_6 (hC : Cab h c t v) : m_r h t 6 = some (t + 1) := hC.2.1.2.1
theorem tr_8 (hC : Cab h c t v) : m_r h t 8 = some (t + 2) := hC.2.1.2.2.1
theorem tr_9 (hC : Cab h c t v) : m_r h t 9 = some (t + 3) := hC.2.1.2.2.2.1
theorem tr_11 (hC : Cab h c t v) : m_r h t 11 = some (t + 4) := hC.2.1.2.2.2.2.1
theorem tr_12 (hC : Cab h c t v) : m_r h t 12 = some (t + 5) := hC.2.1.2.2.2.2.2.1
theorem tr_13 (hC : Cab h c t v) : m_r h t 13 = some (t + 6) := hC.2.1.2.2.2.2.2.2.1
theorem cab_i2 (hC : Cab h c t v) : m_i h c 2 = v 1 13 := hC.2.2.2.1.1
theorem cab_i3 (hC : Cab h c t v) : m_i h c 3 = v 1 11 := hC.2.2.2.1.2.1
theorem cab_i4 (hC : Cab h c t v) : m_i h c 4 = v 1 10 := hC.2.2.2.1.2.2.1
theorem cab_i5 (hC : Cab h c t v) : KV (m_i h c 5) v := hC.2.2.2.1.2.2.2.1
theorem tr_i0 (hC : Cab h c t v) : m_i h t 0 = v 1 0 := hC.2.2.1.1
theorem tr_i1 (hC : Cab h c t v) : m_i h t 1 = v 1 1 := hC.2.2.1.2.1
theorem tr_i2 (hC : Cab h c t v) : m_i h t 2 = v 1 2 := hC.2.2.1.2.2.1
theorem tr_i3 (hC : Cab h c t v) : m_i h t 3 = v 1 3 := hC.2.2.1.2.2.2.1
theorem tr_i4 (hC : Cab h c t v) : m_i h t 4 = v 1 4 := hC.2.2.1.2.2.2.2.1
theorem tr_i5 (hC : Cab h c t v) : m_i h t 5 = v 1 6 := hC.2.2.1.2.2.2.2.2.1
theorem tr_i7 (hC : Cab h c t v) : m_i h t 7 = v 1 8 := hC.2.2.1.2.2.2.2.2.2.1
theorem tr_i10 (hC : Cab h c t v) : m_i h t 10 = v 1 9 := hC.2.2.1.2.2.2.2.2.2.2.1
theorem st_N (hS : St v) : v 1 6 = nI (sN v) := hS.2.1.1
theorem st_N8 (hS : St v) : sN v ≤ 8 := hS.2.1.2
theorem st_T (hS : St v) : v 1 8 = nI (sT v) := hS.2.2.1.1
theorem st_T5 (hS : St v) : sT v ≤ 5 := hS.2.2.1.2
theorem st_C (hS : St v) : v 1 9 = nI (sC v) := hS.2.2.2.1.1
theorem st_C5 (hS : St v) : sC v ≤ 5 := hS.2.2.2.1.2
theorem st_L (hS : St v) : v 1 3 = nI (sL v) := hS.2.2.2.2.1.1
theorem st_L6 (hS : St v) : sL v ≤ 6 := hS.2.2.2.2.1.2
theorem st_P (hS : St v) (hq : q < sN v) : SP v q := hS.2.2.2.2.2.2.2.2.2.2.2.2.2.1 q hq
theorem st_D (hS : St v) {r : Nat} (hq : q < sN v) (hr : r < sN v) (h1 : v 9 q ≠ -1) (h2 : v 9 q = v 9 r) : q = r := hS.2.2.2.2.2.2.2.2.2.2.2.2.2.2 q r hq hr h1 h2
theorem st_mile (hS : St v) : bd (v 1 10) 0 240 := hS.2.2.2.2.2.1
theorem st_warm (hS : St v) : bd (v 1 11) 0 60 := hS.2.2.2.2.2.2.1
theorem st_hole (hS : St v) : bd (v 1 13) 0 5 := hS.2.2.2.2.2.2.2.1
theorem st_tw (hS : St v) : bd (v 1 1) 0 60 := hS.2.2.2.2.2.2.2.2.1
theorem st_tk (hS : St v) : bd (v 1 2) 0 3 := hS.2.2.2.2.2.2.2.2.2.1
theorem st_kv (hS : St v) {k : Nat} (hk : k < 7) : bd (kv v k) 0 3 := hS.2.2.2.2.2.2.2.2.2.2.1 k hk
theorem st_tun (hS : St v) {k : Nat} (hk : k < sT v) : bd (v 13 k) 0 239 ∧ bd (v 14 k) 0 239 := hS.2.2.2.2.2.2.2.2.2.2.2.1 k hk
theorem st_cold (hS : St v) {k : Nat} (hk : k < sC v) : bd (v 17 k) 1 4 := hS.2.2.2.2.2.2.2.2.2.2.2.2.1 k hk
theorem q8 (hS : St v) (hq : q < sN v) : ixn 8 (nI q) = true := u_ixn (Nat.lt_of_lt_of_le hq (st_N8 hS)) (by decide)
theorem qc (hS : St v) (hq : q < sN v) : (nI q).toNatClampNeg = q := nI_clamp (by have := st_N8 hS; omega)
theorem cab_x1 (hC : Cab h c t v) (hS : St v) (hq : q < sN v) : ixb h (c + 1) .int (nI q) = true := ixb_e hC.1.1.2.2.2.2.2.1 (Nat.lt_of_lt_of_le hq (st_N8 hS)) (by decide)
theorem cab_x2 (hC : Cab h c t v) (hS : St v) (hq : q < sN v) : ixb h (c + 2) .int (nI q) = true := ixb_e hC.1.1.2.2.2.2.2.2.1 (Nat.lt_of_lt_of_le hq (st_N8 hS)) (by decide)
theorem cab_x3 (hC : Cab h c t v) (hS : St v) (hq : q < sN v) : ixb h (c + 3) .int (nI q) = true := ixb_e hC.1.1.2.2.2.2.2.2.2.1 (Nat.lt_of_lt_of_le hq (st_N8 hS)) (by decide)
theorem cab_x4 (hC : Cab h c t v) (hS : St v) (hq : q < sN v) : ixb h (c + 4) .int (nI q) = true := ixb_e hC.1.1.2.2.2.2.2.2.2.2 (Nat.lt_of_lt_of_le hq (st_N8 hS)) (by decide)
theorem cab_v1 (hC : Cab h c t v) (hq : q < sN v) : m_i h (c + 1) q = v 9 q := (hC.2.2.2.1.2.2.2.2 q hq).1
theorem cab_v2 (hC : Cab h c t v) (hq : q < sN v) : m_i h (c + 2) q = v 11 q := (hC.2.2.2.1.2.2.2.2 q hq).2.1
theorem cab_v3 (hC : Cab h c t v) (hq : q < sN v) : m_i h (c + 3) q = v 12 q := (hC.2.2.2.1.2.2.2.2 q hq).2.2.1
theorem cab_v4 (hC : Cab h c t v) (hq : q < sN v) : m_i h (c + 4) q = v 8 q := (hC.2.2.2.1.2.2.2.2 q hq).2.2.2
theorem tr_x1 (hC : Cab h c t v) (hS : St v) (hq : q < sN v) : ixb h (t + 1) (.object RX5) (nI q) = true := ixb_e hC.2.1.2.2.2.2.2.2.2.1 (Nat.lt_of_lt_of_le hq (st_N8 hS)) (by decide)
theorem tr_rq (hC : Cab h c t v) (hS : St v) (hq : q < sN v) : m_r h (t + 1) q = some (t + 7 + q) := (hC.2.1.2.2.2.2.2.2.2.2.2 q (Nat.lt_of_lt_of_le hq (st_N8 hS))).1
theorem tr_tq (hC : Cab h c t v) (hS : St v) (hq : q < sN v) : m_t h (t + 7 + q) = .inl 5 := (hC.2.1.2.2.2.2.2.2.2.2.2 q (Nat.lt_of_lt_of_le hq (st_N8 hS))).2
theorem tr_q0 (hC : Cab h c t v) (hq : q < sN v) : m_i h (t + 7 + q) 0 = v 3 q := (hC.2.2.1.2.2.2.2.2.2.2.2.2.2 q hq).1
theorem tr_q1 (hC : Cab h c t v) (hq : q < sN v) : m_i h (t + 7 + q) 1 = v 4 q := (hC.2.2.1.2.2.2.2.2.2.2.2.2.2 q hq).2.1
theorem tr_q2 (hC : Cab h c t v) (hq : q < sN v) : m_i h (t + 7 + q) 2 = v 5 q := (hC.2.2.1.2.2.2.2.2.2.2.2.2.2 q hq).2.2.1
theorem tr_q3 (hC : Cab h c t v) (hq : q < sN v) : m_i h (t + 7 + q) 3 = v 6 q := (hC.2.2.1.2.2.2.2.2.2.2.2.2.2 q hq).2.2.2.1
theorem tr_q4 (hC : Cab h c t v) (hq : q < sN v) : m_i h (t + 7 + q) 4 = v 7 q := (hC.2.2.1.2.2.2.2.2.2.2.2.2.2 q hq).2.2.2.2.1
theorem tr_q6 (hC : Cab h c t v) (hq : q < sN v) : m_i h (t + 7 + q) 6 = fro v q := (hC.2.2.1.2.2.2.2.2.2.2.2.2.2 q hq).2.2.2.2.2
theorem tr_tn (hC : Cab h c t v) {k : Nat} (hk : k < sT v) : m_i h (t + 2) k = v 13 k ∧ m_i h (t + 3) k = v 14 k := hC.2.2.1.2.2.2.2.2.2.2.2.1 k hk
theorem tr_cd (hC : Cab h c t v) {k : Nat} (hk : k < sC v) : m_i h (t + 4) k = v 15 k ∧ m_i h (t + 5) k = v 16 k ∧ m_i h (t + 6) k = v 17 k := hC.2.2.1.2.2.2.2.2.2.2.2.2.1 k hk
theorem tr_xs (hC : Cab h c t v) {k : Nat} (hk : k < 5) : ixb h (t + 2) .int (nI k) = true ∧ ixb h (t + 3) .int (nI k) = true ∧ ixb h (t + 4) .int (nI k) = true ∧ ixb h (t + 5) .int (nI k) = true ∧ ixb h (t + 6) .int (nI k) = true :=
  ⟨ixb_e hC.2.1.2.2.2.2.2.2.2.2.1.1 hk (by decide), ixb_e hC.2.1.2.2.2.2.2.2.2.2.1.2.1 hk (by decide), ixb_e hC.2.1.2.2.2.2.2.2.2.2.1.2.2.1 hk (by decide), ixb_e hC.2.1.2.2.2.2.2.2.2.2.1.2.2.2.1 hk (by decide), ixb_e hC.2.1.2.2.2.2.2.2.2.2.1.2.2.2.2 hk (by decide)⟩
end
