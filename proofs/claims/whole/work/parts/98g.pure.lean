/-! PURE 98g: counting bits. -/
theorem Fr.s1 {h : AH} {a k : Nat} {v : Int32} : Fr (fun b => b = a) h (m_si h a k v) := Fr.si rfl
theorem Fw.s1 {w : MS} {k i : Nat} {v : Int32} : Fw (fun r => r = k) w (w_si w k i v) := Fw.si rfl
theorem and8 {x m : Nat} (y k : Nat) (hx : x < 256) (hm : m < 256) : (x + 256 * y) &&& (m + 256 * k) = (x &&& m) + 256 * (y &&& k) := by
  have h1 : ((x + 256 * y) &&& (m + 256 * k)) % 2 ^ 8 = x &&& m := by
    rw [Nat.and_mod_two_pow, show (x + 256 * y) % 2 ^ 8 = x by omega, show (m + 256 * k) % 2 ^ 8 = m by omega]
  have h2 : ((x + 256 * y) &&& (m + 256 * k)) / 2 ^ 8 = y &&& k := by
    rw [Nat.and_div_two_pow, show (x + 256 * y) / 2 ^ 8 = y by omega, show (m + 256 * k) / 2 ^ 8 = k by omega]
  have h3 := Nat.mod_add_div ((x + 256 * y) &&& (m + 256 * k)) (2 ^ 8)
  rw [h1, h2] at h3
  omega
theorem and0 (x m k : Nat) (hx : x < 256) (hm : m < 256) : x &&& (m + 256 * k) = x &&& m := by
  have := and8 0 k hx hm
  rw [Nat.zero_and] at this
  simpa using this
def sb (M n : Nat) : Nat := n - ((n / 2) &&& M)
def sc2 (M n : Nat) : Nat := (n &&& M) + ((n / 4) &&& M)
def sd (M n : Nat) : Nat := (n + n / 16) &&& M
theorem sb_d : ∀ x : Nat, x < 256 → ∀ b : Nat, b < 2 → (x / 2 + 128 * b) &&& 85 = (x / 2) &&& 85 := by decide +kernel
theorem sc_d : ∀ x : Nat, x < 256 → ∀ b : Nat, b < 4 → (x / 4 + 64 * b) &&& 51 = (x / 4) &&& 51 := by decide +kernel
theorem sd_d : ∀ x : Nat, x < 69 → ∀ b : Nat, b < 5 → (x + x / 16 + 16 * b) &&& 15 = (x + x / 16) &&& 15 := by decide +kernel
theorem sb8 {x y M : Nat} (hx : x < 256) : sb (85 + 256 * M) (x + 256 * y) = sb 85 x + 256 * sb M y := by
  unfold sb
  rw [show (x + 256 * y) / 2 = (x / 2 + 128 * (y % 2)) + 256 * (y / 2) by omega, and8 _ _ (by omega) (by decide), sb_d x hx _ (Nat.mod_lt _ (by decide))]
  have l1 : x / 2 &&& 85 ≤ x / 2 := Nat.and_le_left
  have l2 : y / 2 &&& M ≤ y / 2 := Nat.and_le_left
  omega
theorem sc8 {x y M : Nat} (hx : x < 256) : sc2 (51 + 256 * M) (x + 256 * y) = sc2 51 x + 256 * sc2 M y := by
  unfold sc2
  rw [show (x + 256 * y) / 4 = (x / 4 + 64 * (y % 4)) + 256 * (y / 4) by omega, and8 _ _ hx (by decide), and8 _ _ (by omega) (by decide), sc_d x hx _ (Nat.mod_lt _ (by decide))]
  omega
theorem sd8 {x y M : Nat} (hx : x < 69) (hy : y % 16 < 5) : sd (15 + 256 * M) (x + 256 * y) = sd 15 x + 256 * sd M y := by
  unfold sd
  rw [show x + 256 * y + (x + 256 * y) / 16 = (x + x / 16 + 16 * (y % 16)) + 256 * (y + y / 16) by omega, and8 _ _ (by omega) (by decide), sd_d x hx _ hy]
/-- of one byte -/
def b8 (n : Nat) : Nat := sd 15 (sc2 51 (sb 85 n))
theorem b8_all : ∀ p : Nat, p < 256 → sb 85 p < 256 ∧ sc2 51 (sb 85 p) < 69 ∧ sc2 51 (sb 85 p) % 16 < 5 ∧ b8 p ≤ 8 := by decide +kernel
theorem b8_up : ∀ k : Nat, k < 8 → ∀ n : Nat, n < 2 ^ k → b8 (n + 2 ^ k) = b8 n + 1 := by decide +kernel
def bcN (n : Nat) : Nat :=
  let d := sd 252645135 (sc2 858993459 (sb 1431655765 n))
  let e := d + d / 256
  (e + e / 65536) % 64
theorem mix8 (P Q S : Nat) (h1 : P ≤ 8) (h2 : Q ≤ 8) (h3 : S ≤ 8) : (P + 256 * (Q + 256 * S) + (P + 256 * (Q + 256 * S)) / 256 + (P + 256 * (Q + 256 * S) + (P + 256 * (Q + 256 * S)) / 256) / 65536) % 64 = P + Q + S := by
  have e1 : (P + 256 * (Q + 256 * S)) / 256 = Q + 256 * S := by omega
  rw [e1]
  have e2 : (P + 256 * (Q + 256 * S) + (Q + 256 * S)) / 65536 = S := by omega
  rw [e2]
  omega
theorem bcN_e {p q r : Nat} (hp : p < 256) (hq : q < 256) (hr : r < 256) : bcN (p + 256 * (q + 256 * r)) = b8 p + b8 q + b8 r := by
  have ap := b8_all p hp
  have aq := b8_all q hq
  have ar := b8_all r hr
  have e1 : sb 1431655765 (p + 256 * (q + 256 * r)) = sb 85 p + 256 * (sb 85 q + 256 * sb 85 r) := by
    rw [show (1431655765 : Nat) = 85 + 256 * (85 + 256 * (85 + 256 * 85)) by decide, sb8 hp, sb8 hq]
    have : sb (85 + 256 * 85) r = sb 85 r := by unfold sb; rw [and0 _ _ _ (by omega) (by decide)]
    rw [this]
  have e2 : sc2 858993459 (sb 85 p + 256 * (sb 85 q + 256 * sb 85 r)) = sc2 51 (sb 85 p) + 256 * (sc2 51 (sb 85 q) + 256 * sc2 51 (sb 85 r)) := by
    rw [show (858993459 : Nat) = 51 + 256 * (51 + 256 * (51 + 256 * 51)) by decide, sc8 ap.1, sc8 aq.1]
    have : sc2 (51 + 256 * 51) (sb 85 r) = sc2 51 (sb 85 r) := by
      have := ar.1
      unfold sc2; rw [and0 _ _ _ (by omega) (by decide), and0 _ _ _ (by omega) (by decide)]
    rw [this]
  have e3 : sd 252645135 (sc2 51 (sb 85 p) + 256 * (sc2 51 (sb 85 q) + 256 * sc2 51 (sb 85 r))) = b8 p + 256 * (b8 q + 256 * b8 r) := by
    rw [show (252645135 : Nat) = 15 + 256 * (15 + 256 * (15 + 256 * 15)) by decide, sd8 ap.2.1 (by have := aq.2.2.1; omega), sd8 aq.2.1 ar.2.2.1]
    have : sd (15 + 256 * 15) (sc2 51 (sb 85 r)) = sd 15 (sc2 51 (sb 85 r)) := by
      have := ar.2.1
      unfold sd; rw [and0 _ _ _ (by omega) (by decide)]
    rw [this]; rfl
  unfold bcN
  rw [e1, e2, e3]
  have := ap.2.2.2
  have := aq.2.2.2
  have := ar.2.2.2
  show (b8 p + 256 * (b8 q + 256 * b8 r) + (b8 p + 256 * (b8 q + 256 * b8 r)) / 256 + (b8 p + 256 * (b8 q + 256 * b8 r) + (b8 p + 256 * (b8 q + 256 * b8 r)) / 256) / 65536) % 64 = _
  exact mix8 _ _ _ (by assumption) (by assumption) (by assumption)
theorem b8_0 : b8 0 = 0 := by decide
theorem bcN_up {k n : Nat} (hk : k < 24) (hn : n < 2 ^ k) : bcN (n + 2 ^ k) = bcN n + 1 := by
  rcases Nat.lt_or_ge k 8 with h1 | h1
  · have hT : 2 ^ k ≤ 2 ^ 7 := Nat.pow_le_pow_right (by decide) (by omega)
    have e1 := bcN_e (p := n + 2 ^ k) (q := 0) (r := 0) (by omega) (by decide) (by decide)
    have e2 := bcN_e (p := n) (q := 0) (r := 0) (by omega) (by decide) (by decide)
    have e3 := b8_up k h1 n hn
    rw [b8_0] at e1 e2
    simp only [Nat.mul_zero, Nat.add_zero] at e1 e2
    omega
  · rcases Nat.lt_or_ge k 16 with h2 | h2
    · obtain ⟨j, rfl⟩ : ∃ j, k = 8 + j := ⟨k - 8, by omega⟩
      have hT : 2 ^ j ≤ 2 ^ 7 := Nat.pow_le_pow_right (by decide) (by omega)
      have hP : 2 ^ (8 + j) = 256 * 2 ^ j := by rw [Nat.pow_add]
      have e3 := b8_up j (by omega) (n / 256) (by omega)
      have e1 := bcN_e (p := n % 256) (q := n / 256 + 2 ^ j) (r := 0) (by omega) (by omega) (by decide)
      have e2 := bcN_e (p := n % 256) (q := n / 256) (r := 0) (by omega) (by omega) (by decide)
      rw [show n % 256 + 256 * (n / 256 + 2 ^ j + 256 * 0) = n + 2 ^ (8 + j) by omega] at e1
      rw [show n % 256 + 256 * (n / 256 + 256 * 0) = n by omega] at e2
      omega
    · obtain ⟨j, rfl⟩ : ∃ j, k = 16 + j := ⟨k - 16, by omega⟩
      have hT : 2 ^ j ≤ 2 ^ 7 := Nat.pow_le_pow_right (by decide) (by omega)
      have hP : 2 ^ (16 + j) = 65536 * 2 ^ j := by rw [Nat.pow_add]
      have e3 := b8_up j (by omega) (n / 65536) (by omega)
      have e1 := bcN_e (p := n % 256) (q := n / 256 % 256) (r := n / 65536 + 2 ^ j) (by omega) (by omega) (by omega)
      have e2 := bcN_e (p := n % 256) (q := n / 256 % 256) (r := n / 65536) (by omega) (by omega) (by omega)
      rw [show n % 256 + 256 * (n / 256 % 256 + 256 * (n / 65536 + 2 ^ j)) = n + 2 ^ (16 + j) by omega] at e1
      rw [show n % 256 + 256 * (n / 256 % 256 + 256 * (n / 65536)) = n by omega] at e2
      omega
theorem u_and (a b : Nat) : nI a &&& nI b = nI (a &&& b) := by
  show Int32.ofNat a &&& Int32.ofNat b = Int32.ofNat (a &&& b)
  rw [← Int32.toBitVec_inj, Int32.toBitVec_and, Int32.toBitVec_ofNat', Int32.toBitVec_ofNat', Int32.toBitVec_ofNat', BitVec.ofNat_and]
def i1 (x : Int32) : Int32 := x - (((x.toUInt32 >>> ((1 : Int32).toUInt32 &&& Int32.toUInt32 31)).toInt32) &&& (1431655765 : Int32))
def i2 (a : Int32) : Int32 := (a &&& (858993459 : Int32)) + (((a.toUInt32 >>> ((2 : Int32).toUInt32 &&& Int32.toUInt32 31)).toInt32) &&& (858993459 : Int32))
def i3 (b : Int32) : Int32 := (b + ((b.toUInt32 >>> ((4 : Int32).toUInt32 &&& Int32.toUInt32 31)).toInt32)) &&& (252645135 : Int32)
def i4 (d : Int32) : Int32 := d + ((d.toUInt32 >>> ((8 : Int32).toUInt32 &&& Int32.toUInt32 31)).toInt32)
def i5 (e : Int32) : Int32 := e + ((e.toUInt32 >>> ((16 : Int32).toUInt32 &&& Int32.toUInt32 31)).toInt32)
theorem bcI_s (x : Int32) : bcI x = i5 (i4 (i3 (i2 (i1 x)))) &&& (63 : Int32) := rfl
theorem bcI_N {n : Nat} (hn : n < 2 ^ 24) : bcI (nI n) = nI (bcN n) := by
  have m1 : (1431655765 : Int32) = nI 1431655765 := rfl
  have m2 : (858993459 : Int32) = nI 858993459 := rfl
  have m3 : (252645135 : Int32) = nI 252645135 := rfl
  have l1 : n / 2 ^ 1 &&& 1431655765 ≤ n / 2 ^ 1 := Nat.and_le_left
  have e1 : i1 (nI n) = nI (sb 1431655765 n) := by
    unfold i1 sb
    rw [pk_ushrN (by omega) 1 1 (by decide), m1, u_and, pk_sub (by omega)]
  have b1 : sb 1431655765 n ≤ n := Nat.sub_le _ _
  have e2 : ∀ a, a < 2 ^ 25 → i2 (nI a) = nI (sc2 858993459 a) := fun a ha => by
    unfold i2 sc2
    rw [pk_ushrN (by omega) 2 2 (by decide), m2, u_and, u_and, nI_add]
  have b2 : ∀ a, sc2 858993459 a ≤ a + a / 4 := fun a => by
    have l2 : a &&& 858993459 ≤ a := Nat.and_le_left
    have l3 : a / 4 &&& 858993459 ≤ a / 4 := Nat.and_le_left
    unfold sc2; omega
  have e3 : ∀ b, b < 2 ^ 26 → i3 (nI b) = nI (sd 252645135 b) := fun b hb => by
    unfold i3 sd
    rw [pk_ushrN (by omega) 4 4 (by decide), m3, nI_add, u_and]
  have b3 : ∀ b, sd 252645135 b ≤ b + b / 16 := fun b => Nat.and_le_left
  have e4 : ∀ d, d < 2 ^ 27 → i4 (nI d) = nI (d + d / 256) := fun d hd => by
    unfold i4
    rw [pk_ushrN (by omega) 8 8 (by decide), nI_add]
  have e5 : ∀ d, d < 2 ^ 28 → i5 (nI d) = nI (d + d / 65536) := fun d hd => by
    unfold i5
    rw [pk_ushrN (by omega) 16 16 (by decide), nI_add]
  have q2 := b2 (sb 1431655765 n)
  have q3 := b3 (sc2 858993459 (sb 1431655765 n))
  rw [bcI_s, e1, e2 _ (by omega), e3 _ (by omega), e4 _ (by omega), e5 _ (by omega), pk_andN (k := 6) (by omega) (by decide)]
  rfl
theorem sh24 : ∀ k : Nat, k < 24 → (1 : Int32) <<< (nI k &&& 31) = nI (2 ^ k) := by decide +kernel
theorem sm24 : ∀ k : Nat, k < 24 → ((nI k &&& 31).toBitVec.smod 32).toNat = k := by decide +kernel
theorem bit24 {n k : Nat} (hn : n < 2 ^ 24) (hk : k < 24) : (nI n >>> (nI k &&& 31)) &&& (1 : Int32) = if n.testBit k then 1 else 0 := by
  rw [pk_shrN (by omega) _ k (sm24 k hk), pk_andN (k := 1) (Nat.lt_of_le_of_lt (Nat.div_le_self _ _) (by omega)) (by decide), Nat.testBit_eq_decide_div_mod_eq]
  have : n / 2 ^ k % 2 ^ 1 = 0 ∨ n / 2 ^ k % 2 ^ 1 = 1 := by omega
  rcases this with e | e
  · rw [e, if_neg (by decide)]; rfl
  · rw [e, if_pos (by decide)]; rfl
/-- a row of bits -/
def rowN (f : Nat → Bool) (k : Nat) : Nat := fs (fun q a => a + if f q then 2 ^ q else 0) k 0 0
def rowC (f : Nat → Bool) (k : Nat) : Nat := fs (fun q a => a + if f q then 1 else 0) k 0 0
theorem rowN_s (f : Nat → Bool) (k : Nat) : rowN f (k + 1) = rowN f k + if f k then 2 ^ k else 0 := by
  unfold rowN; rw [fs_snoc, Nat.zero_add]
theorem rowC_s (f : Nat → Bool) (k : Nat) : rowC f (k + 1) = rowC f k + if f k then 1 else 0 := by
  unfold rowC; rw [fs_snoc, Nat.zero_add]
theorem rowN_lt (f : Nat → Bool) : ∀ k, rowN f k < 2 ^ k
  | 0 => Nat.one_pos
  | k + 1 => by
    have := rowN_lt f k
    rw [rowN_s, Nat.pow_succ]
    split <;> omega
theorem rowC_le (f : Nat → Bool) : ∀ k, rowC f k ≤ k
  | 0 => Nat.le_refl 0
  | k + 1 => by
    have := rowC_le f k
    rw [rowC_s]
    split <;> omega
theorem rowC_0 (f : Nat → Bool) : ∀ k, rowC f k = 0 ↔ ∀ q, q < k → f q = false
  | 0 => ⟨fun _ q h => by omega, fun _ => rfl⟩
  | k + 1 => by
    rw [rowC_s, Nat.add_eq_zero_iff, rowC_0 f k]
    constructor
    · intro ⟨a, b⟩ q hq
      by_cases e : q = k
      · subst e
        by_cases z : f q = true
        · rw [if_pos z] at b; omega
        · simpa using z
      · exact a q (by omega)
    · intro a
      exact ⟨fun q hq => a q (by omega), by rw [if_neg (by rw [a k (by omega)]; decide)]⟩
theorem rowN_or (f : Nat → Bool) (k : Nat) (hk : k < 24) : nI (rowN f k) ||| (if f k then (1 : Int32) <<< (nI k &&& 31) else 0) = nI (rowN f (k + 1)) := by
  rw [rowN_s]
  by_cases z : f k = true
  · rw [if_pos z, if_pos z, sh24 k hk, u_or, Nat.or_comm]
    congr 1
    have := Nat.two_pow_add_eq_or_of_lt (rowN_lt f k) 1
    rw [Nat.mul_one] at this
    rw [← this, Nat.add_comm]
  · rw [if_neg z, if_neg z, Int32.or_zero, Nat.add_zero]
theorem rowN_bit (f : Nat → Bool) : ∀ (k q : Nat), q < k → (rowN f k).testBit q = f q
  | 0, q, h => by omega
  | k + 1, q, h => by
    have hl := rowN_lt f k
    rw [rowN_s]
    by_cases z : f k = true
    · rw [if_pos z, Nat.add_comm]
      by_cases e : q = k
      · subst e; rw [Nat.testBit_two_pow_add_eq, z, Nat.testBit_lt_two_pow hl]; rfl
      · rw [Nat.testBit_two_pow_add_gt (by omega)]; exact rowN_bit f k q (by omega)
    · rw [if_neg z, Nat.add_zero]
      by_cases e : q = k
      · subst e; rw [Nat.testBit_lt_two_pow hl]; simp at z; exact z.symm
      · exact rowN_bit f k q (by omega)
theorem rowN_bc (f : Nat → Bool) : ∀ k, k ≤ 24 → bcN (rowN f k) = rowC f k
  | 0, _ => show bcN 0 = 0 by decide
  | k + 1, h => by
    have ih := rowN_bc f k (by omega)
    rw [rowN_s, rowC_s]
    by_cases z : f k = true
    · rw [if_pos z, if_pos z, bcN_up (by omega) (rowN_lt f k), ih]
    · rw [if_neg z, if_neg z, Nat.add_zero, Nat.add_zero, ih]
