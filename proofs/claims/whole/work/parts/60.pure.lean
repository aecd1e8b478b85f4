/-! PURE 60: the combinators, memory laws, bounds. -/
theorem u_nn {α β : Type} (a : α) (f : α → β) : nn a f = f a := rfl
theorem u_ck {β : Type} {c : Prop} [Decidable c] {x : Option β} (h : c) : ck c x = x := if_pos h
theorem u_ob {α β : Type} (a : α) (f : α → Option β) : ob (some a) f = f a := rfl
theorem u_cb {α β : Type} (a : α) (h : AH) (f : α → AH → Option β) : cb (some (a, h)) f = f a h := rfl
theorem u_cw {α β : Type} (a : α) (w : MS) (f : α → MS → Option β) : cw (some (a, w)) f = f a w := rfl
theorem on_s {α β : Type} (a : α) (n : Option β) (f : α → Option β) : on (some a) n f = f a := rfl
theorem on_n {α β : Type} (n : Option β) (f : α → Option β) : on (none : Option α) n f = n := rfl
theorem m_t_si (h : AH) (a k : Nat) (v : Int32) : m_t (m_si h a k v) = m_t h := rfl
theorem m_r_si (h : AH) (a k : Nat) (v : Int32) : m_r (m_si h a k v) = m_r h := rfl
theorem m_l_si (h : AH) (a k : Nat) (v : Int32) : m_l (m_si h a k v) = m_l h := rfl
theorem m_n_si (h : AH) (a k : Nat) (v : Int32) : m_n (m_si h a k v) = m_n h := rfl
theorem m_t_sl (h : AH) (a k : Nat) (v : Int64) : m_t (m_sl h a k v) = m_t h := rfl
theorem m_r_sl (h : AH) (a k : Nat) (v : Int64) : m_r (m_sl h a k v) = m_r h := rfl
theorem m_i_sl (h : AH) (a k : Nat) (v : Int64) : m_i (m_sl h a k v) = m_i h := rfl
theorem m_n_sl (h : AH) (a k : Nat) (v : Int64) : m_n (m_sl h a k v) = m_n h := rfl
theorem m_t_sr (h : AH) (a k : Nat) (v : Option Nat) : m_t (m_sr h a k v) = m_t h := rfl
theorem m_i_sr (h : AH) (a k : Nat) (v : Option Nat) : m_i (m_sr h a k v) = m_i h := rfl
theorem m_l_sr (h : AH) (a k : Nat) (v : Option Nat) : m_l (m_sr h a k v) = m_l h := rfl
theorem m_n_sr (h : AH) (a k : Nat) (v : Option Nat) : m_n (m_sr h a k v) = m_n h := rfl
theorem m_t_sa (h : AH) (a : Nat) (f : Nat → Int32) : m_t (m_sa h a f) = m_t h := rfl
theorem m_r_sa (h : AH) (a : Nat) (f : Nat → Int32) : m_r (m_sa h a f) = m_r h := rfl
theorem m_l_sa (h : AH) (a : Nat) (f : Nat → Int32) : m_l (m_sa h a f) = m_l h := rfl
theorem m_n_sa (h : AH) (a : Nat) (f : Nat → Int32) : m_n (m_sa h a f) = m_n h := rfl
theorem m_i_si (h : AH) (a k : Nat) (v : Int32) (b j : Nat) : m_i (m_si h a k v) b j = if b = a ∧ j = k then v else m_i h b j := by
  show va_up h.2.1 a (upd (h.2.1 a) k v) b j = _
  unfold va_up upd m_i
  by_cases hb : b = a
  · subst hb; by_cases hj : j = k <;> simp [hj]
  · simp [hb]
theorem m_i_ss (h : AH) (a k : Nat) (v : Int32) : m_i (m_si h a k v) a k = v := by rw [m_i_si, if_pos ⟨rfl, rfl⟩]
theorem m_i_sb {h : AH} {a k : Nat} {v : Int32} {b : Nat} (hb : b ≠ a) : m_i (m_si h a k v) b = m_i h b := by
  funext j; rw [m_i_si, if_neg (fun q => hb q.1)]
theorem m_i_sj {h : AH} {a k : Nat} {v : Int32} {b j : Nat} (hj : j ≠ k) : m_i (m_si h a k v) b j = m_i h b j := by
  rw [m_i_si, if_neg (fun q => hj q.2)]
theorem m_r_sr' (h : AH) (a k : Nat) (v : Option Nat) (b j : Nat) : m_r (m_sr h a k v) b j = if b = a ∧ j = k then v else m_r h b j := by
  show va_up h.2.2.2.1 a (va_up (h.2.2.2.1 a) k v) b j = _
  unfold va_up m_r
  by_cases hb : b = a
  · subst hb; by_cases hj : j = k <;> simp [hj]
  · simp [hb]
theorem m_l_sl' (h : AH) (a k : Nat) (v : Int64) (b j : Nat) : m_l (m_sl h a k v) b j = if b = a ∧ j = k then v else m_l h b j := by
  show va_up h.2.2.1 a (vp_updL (h.2.2.1 a) k v) b j = _
  unfold va_up vp_updL m_l
  by_cases hb : b = a
  · subst hb; by_cases hj : j = k <;> simp [hj]
  · simp [hb]
theorem m_i_sa (h : AH) (a : Nat) (f : Nat → Int32) (b : Nat) : m_i (m_sa h a f) b = if b = a then f else m_i h b := rfl
theorem ixb_si (h : AH) (a k : Nat) (v : Int32) : ixb (m_si h a k v) = ixb h := rfl
theorem ixb_sl (h : AH) (a k : Nat) (v : Int64) : ixb (m_sl h a k v) = ixb h := rfl
theorem ixb_sr (h : AH) (a k : Nat) (v : Option Nat) : ixb (m_sr h a k v) = ixb h := rfl
theorem ixb_sa (h : AH) (a : Nat) (f : Nat → Int32) : ixb (m_sa h a f) = ixb h := rfl
theorem alb_si (h : AH) (a k : Nat) (v : Int32) : alb (m_si h a k v) = alb h := rfl
theorem alb_sr (h : AH) (a k : Nat) (v : Option Nat) : alb (m_sr h a k v) = alb h := rfl
theorem alb_sa (h : AH) (a : Nat) (f : Nat → Int32) : alb (m_sa h a f) = alb h := rfl
theorem alb_e {h : AH} {a n : Nat} {t : FieldType} (ht : m_t h a = .inr (t, n)) : alb h a t = some n := by simp [alb, ht]
theorem ixb_e {h : AH} {a n q : Nat} {t : FieldType} (ht : m_t h a = .inr (t, n)) (hq : q < n) (hn : n < 2 ^ 31) : ixb h a t (nI q) = true := by
  have h1 : (nI q).toNatClampNeg = q := nI_clamp (Nat.lt_trans hq hn)
  have h2 : (0 : Int32) ≤ nI q := nI_pos' (Nat.lt_trans hq hn)
  simp [ixb, ht, h1, h2, hq]
theorem u_ixn {n q : Nat} (hq : q < n) (hn : n < 2 ^ 31) : ixn n (nI q) = true := by
  have h1 : (nI q).toNatClampNeg = q := nI_clamp (Nat.lt_trans hq hn)
  have h2 : (0 : Int32) ≤ nI q := nI_pos' (Nat.lt_trans hq hn)
  simp [ixn, h1, h2, hq]
theorem w_si_e (w : MS) (k i : Nat) (v : Int32) (r j : Nat) : (w_si w k i v).1 r j = if r = k ∧ j = i then v else w.1 r j := by
  show va_up w.1 k (upd (w.1 k) i v) r j = _
  unfold va_up upd
  by_cases hb : r = k
  · subst hb; by_cases hj : j = i <;> simp [hj]
  · simp [hb]
theorem w_si_2 (w : MS) (k i : Nat) (v : Int32) : (w_si w k i v).2 = w.2 := rfl
theorem w_si_r {w : MS} {k i : Nat} {v : Int32} {r : Nat} (hr : r ≠ k) : (w_si w k i v).1 r = w.1 r := by
  funext j; rw [w_si_e, if_neg (fun q => hr q.1)]
theorem w_si_s (w : MS) (k i : Nat) (v : Int32) : (w_si w k i v).1 k i = v := by rw [w_si_e, if_pos ⟨rfl, rfl⟩]
theorem w_si_j {w : MS} {k i : Nat} {v : Int32} {r j : Nat} (hj : j ≠ i) : (w_si w k i v).1 r j = w.1 r j := by
  rw [w_si_e, if_neg (fun q => hj q.2)]
theorem w_sl_1 (w : MS) (k i : Nat) (v : Int64) : (w_sl w k i v).1 = w.1 := rfl
theorem w_sl_e (w : MS) (k i : Nat) (v : Int64) (r j : Nat) : (w_sl w k i v).2 r j = if r = k ∧ j = i then v else w.2 r j := by
  show va_up w.2 k (vp_updL (w.2 k) i v) r j = _
  unfold va_up vp_updL
  by_cases hb : r = k
  · subst hb; by_cases hj : j = i <;> simp [hj]
  · simp [hb]
/-- bounds -/
def bd (x : Int32) (a b : Int) : Prop := a ≤ x.toInt ∧ x.toInt ≤ b
theorem I_le (a b : Int32) : a ≤ b ↔ a.toInt ≤ b.toInt := Int32.le_iff_toInt_le
theorem I_lt (a b : Int32) : a < b ↔ a.toInt < b.toInt := Int32.lt_iff_toInt_lt
theorem I_eq (a b : Int32) : a = b ↔ a.toInt = b.toInt := Int32.toInt_inj.symm
theorem I_bm {x : Int} (h1 : -2147483648 ≤ x) (h2 : x < 2147483648) : x.bmod (2 ^ 32) = x := by
  rw [Int.bmod_def]; omega
theorem I_add {a b : Int32} (h1 : -2147483648 ≤ a.toInt + b.toInt) (h2 : a.toInt + b.toInt < 2147483648) : (a + b).toInt = a.toInt + b.toInt := by
  rw [Int32.toInt_add]; exact I_bm h1 h2
theorem I_sub {a b : Int32} (h1 : -2147483648 ≤ a.toInt - b.toInt) (h2 : a.toInt - b.toInt < 2147483648) : (a - b).toInt = a.toInt - b.toInt := by
  rw [Int32.toInt_sub]; exact I_bm h1 h2
theorem I_mul {a b : Int32} (h1 : -2147483648 ≤ a.toInt * b.toInt) (h2 : a.toInt * b.toInt < 2147483648) : (a * b).toInt = a.toInt * b.toInt := by
  rw [Int32.toInt_mul]; exact I_bm h1 h2
/-- a bounded number is one of a short list -/
theorem bd_of {x : Int32} {a b : Int} (h : bd x a b) : ∃ k : Nat, (k : Int) ≤ b - a ∧ x = Int32.ofInt (a + k) := by
  refine ⟨(x.toInt - a).toNat, ?_, ?_⟩
  · have := h.1; have := h.2; omega
  · have h1 : a + ((x.toInt - a).toNat : Int) = x.toInt := by have := h.1; omega
    rw [h1, Int32.ofInt_toInt]
theorem bd_nI {x : Int32} {b : Nat} (h : bd x 0 b) : ∃ k : Nat, k ≤ b ∧ x = nI k := by
  obtain ⟨k, h1, h2⟩ := bd_of h
  refine ⟨k, by omega, ?_⟩
  rw [h2, Int.zero_add]; rfl
theorem nI_bd {k b : Nat} (h : k ≤ b) (hb : b < 2 ^ 31) : bd (nI k) 0 b := by
  have := nI_toInt (n := k) (by omega)
  unfold bd; omega
theorem L_le (a b : Int32) : a.toInt64 ≤ b.toInt64 ↔ a ≤ b := by rw [Int64.le_iff_toInt_le, I_le, Int32.toInt_toInt64, Int32.toInt_toInt64]
theorem L_lt (a b : Int32) : a.toInt64 < b.toInt64 ↔ a < b := by rw [Int64.lt_iff_toInt_lt, I_lt, Int32.toInt_toInt64, Int32.toInt_toInt64]
theorem L_eq (a b : Int32) : a.toInt64 = b.toInt64 ↔ a = b := by rw [← Int64.toInt_inj, I_eq, Int32.toInt_toInt64, Int32.toInt_toInt64]
theorem p_in_e (G : GG) (x a b : Int64) (w : MS) : p_X12_in G x a b w = some (if a ≤ x ∧ x ≤ b then 1 else 0, w) := by
  unfold p_X12_in
  simp only [lg_cmp_lt, lg_cmp_gt]
  by_cases h1 : x < a
  · rw [if_pos h1, if_neg (fun q => by have := q.1; rw [Int64.lt_iff_toInt_lt] at h1; rw [Int64.le_iff_toInt_le] at this; omega)]
  · rw [if_neg h1]
    by_cases h2 : b < x
    · rw [if_pos h2, if_neg (fun q => by have := q.2; rw [Int64.lt_iff_toInt_lt] at h2; rw [Int64.le_iff_toInt_le] at this; omega)]
    · rw [if_neg h2, if_pos]
      rw [Int64.lt_iff_toInt_lt] at h1 h2
      rw [Int64.le_iff_toInt_le, Int64.le_iff_toInt_le]; omega
theorem p_in_i (G : GG) (x a b : Int32) (w : MS) : p_X12_in G x.toInt64 a.toInt64 b.toInt64 w = some (if a ≤ x ∧ x ≤ b then 1 else 0, w) := by
  rw [p_in_e]; simp only [L_le]
theorem b01 {c : Prop} [Decidable c] : (if c then (1 : Int32) else 0) &&& 1 = (if c then (1 : Int32) else 0) := by
  by_cases h : c <;> simp [h]
theorem b01_0 {c : Prop} [Decidable c] : ((if c then (1 : Int32) else 0) = 0) = ¬ c := by
  by_cases h : c <;> simp [h]
theorem b01_1 {c : Prop} [Decidable c] : ((if c then (1 : Int32) else 0) = 1) = c := by
  by_cases h : c <;> simp [h]
/-- what a step may change -/
def Fr (S : Nat → Prop) (h h' : AH) : Prop := m_t h' = m_t h ∧ m_r h' = m_r h ∧ m_n h' = m_n h ∧ ∀ a, ¬ S a → m_i h' a = m_i h a ∧ m_l h' a = m_l h a
theorem Fr.rf {S : Nat → Prop} {h : AH} : Fr S h h := ⟨rfl, rfl, rfl, fun _ _ => ⟨rfl, rfl⟩⟩
theorem Fr.tr {S : Nat → Prop} {h h1 h2 : AH} (a : Fr S h h1) (b : Fr S h1 h2) : Fr S h h2 :=
  ⟨b.1.trans a.1, b.2.1.trans a.2.1, b.2.2.1.trans a.2.2.1, fun q hq => ⟨(b.2.2.2 q hq).1.trans (a.2.2.2 q hq).1, (b.2.2.2 q hq).2.trans (a.2.2.2 q hq).2⟩⟩
theorem Fr.wk {S T : Nat → Prop} {h h1 : AH} (a : Fr S h h1) (st : ∀ q, S q → T q) : Fr T h h1 :=
  ⟨a.1, a.2.1, a.2.2.1, fun q hq => a.2.2.2 q (fun z => hq (st q z))⟩
theorem Fr.si {S : Nat → Prop} {h : AH} {a k : Nat} {v : Int32} (ha : S a) : Fr S h (m_si h a k v) :=
  ⟨rfl, rfl, rfl, fun q hq => ⟨m_i_sb (fun e => hq (e ▸ ha)), rfl⟩⟩
theorem Fr.sa {S : Nat → Prop} {h : AH} {a : Nat} {f : Nat → Int32} (ha : S a) : Fr S h (m_sa h a f) :=
  ⟨rfl, rfl, rfl, fun q hq => ⟨by rw [m_i_sa, if_neg (fun e => hq (by rw [e]; exact ha))], rfl⟩⟩
theorem Fr.sl {S : Nat → Prop} {h : AH} {a k : Nat} {v : Int64} (ha : S a) : Fr S h (m_sl h a k v) :=
  ⟨rfl, rfl, rfl, fun q hq => ⟨rfl, by funext j; rw [m_l_sl', if_neg (fun e => hq (by rw [e.1]; exact ha))]⟩⟩
/-- which rows a step of the reference may change -/
def Fw (S : Nat → Prop) (w w' : MS) : Prop := ∀ k, ¬ S k → w'.1 k = w.1 k
theorem Fw.rf {S : Nat → Prop} {w : MS} : Fw S w w := fun _ _ => rfl
theorem Fw.tr {S : Nat → Prop} {w w1 w2 : MS} (a : Fw S w w1) (b : Fw S w1 w2) : Fw S w w2 := fun k hk => (b k hk).trans (a k hk)
theorem Fw.wk {S T : Nat → Prop} {w w1 : MS} (a : Fw S w w1) (st : ∀ q, S q → T q) : Fw T w w1 := fun k hk => a k (fun z => hk (st k z))
theorem Fw.si {S : Nat → Prop} {w : MS} {k i : Nat} {v : Int32} (hk : S k) : Fw S w (w_si w k i v) := fun r hr => w_si_r (fun e => hr (e ▸ hk))
theorem Fw.sl {S : Nat → Prop} {w : MS} {k i : Nat} {v : Int64} : Fw S w (w_sl w k i v) := fun _ _ => rfl
theorem ix_1_0 : ixn 1 (0 : Int32) = true := by decide
theorem ix_7_0 : ixn 7 (0 : Int32) = true := by decide
theorem ix_10_0 : ixn 10 (0 : Int32) = true := by decide
theorem ix_10_1 : ixn 10 (1 : Int32) = true := by decide
theorem ix_10_2 : ixn 10 (2 : Int32) = true := by decide
theorem ix_10_3 : ixn 10 (3 : Int32) = true := by decide
theorem ix_10_4 : ixn 10 (4 : Int32) = true := by decide
theorem ix_10_5 : ixn 10 (5 : Int32) = true := by decide
theorem ix_10_6 : ixn 10 (6 : Int32) = true := by decide
theorem ix_10_7 : ixn 10 (7 : Int32) = true := by decide
theorem ix_10_8 : ixn 10 (8 : Int32) = true := by decide
theorem ix_10_9 : ixn 10 (9 : Int32) = true := by decide
theorem ix_13_0 : ixn 13 (0 : Int32) = true := by decide
theorem ix_13_1 : ixn 13 (1 : Int32) = true := by decide
theorem ix_13_2 : ixn 13 (2 : Int32) = true := by decide
theorem ix_13_3 : ixn 13 (3 : Int32) = true := by decide
theorem ix_13_4 : ixn 13 (4 : Int32) = true := by decide
theorem ix_13_5 : ixn 13 (5 : Int32) = true := by decide
theorem ix_13_6 : ixn 13 (6 : Int32) = true := by decide
theorem ix_13_7 : ixn 13 (7 : Int32) = true := by decide
theorem ix_13_8 : ixn 13 (8 : Int32) = true := by decide
theorem ix_13_9 : ixn 13 (9 : Int32) = true := by decide
theorem ix_13_10 : ixn 13 (10 : Int32) = true := by decide
theorem ix_13_11 : ixn 13 (11 : Int32) = true := by decide
theorem ix_13_12 : ixn 13 (12 : Int32) = true := by decide
theorem ix_17_0 : ixn 17 (0 : Int32) = true := by decide
theorem ix_17_1 : ixn 17 (1 : Int32) = true := by decide
theorem ix_17_2 : ixn 17 (2 : Int32) = true := by decide
theorem ix_17_3 : ixn 17 (3 : Int32) = true := by decide
theorem ix_17_4 : ixn 17 (4 : Int32) = true := by decide
theorem ix_17_6 : ixn 17 (6 : Int32) = true := by decide
theorem ix_17_7 : ixn 17 (7 : Int32) = true := by decide
theorem ix_17_8 : ixn 17 (8 : Int32) = true := by decide
theorem ix_17_9 : ixn 17 (9 : Int32) = true := by decide
theorem ix_17_10 : ixn 17 (10 : Int32) = true := by decide
theorem ix_17_11 : ixn 17 (11 : Int32) = true := by decide
theorem ix_17_12 : ixn 17 (12 : Int32) = true := by decide
theorem ix_17_13 : ixn 17 (13 : Int32) = true := by decide
theorem ix_17_14 : ixn 17 (14 : Int32) = true := by decide
theorem ix_17_15 : ixn 17 (15 : Int32) = true := by decide
theorem ix_17_16 : ixn 17 (16 : Int32) = true := by decide
theorem ix_256_0 : ixn 256 (0 : Int32) = true := by decide
theorem ix_300_0 : ixn 300 (0 : Int32) = true := by decide
theorem tn_0 : (0 : Int32).toNatClampNeg = 0 := by decide
theorem tn_1 : (1 : Int32).toNatClampNeg = 1 := by decide
theorem tn_2 : (2 : Int32).toNatClampNeg = 2 := by decide
theorem tn_3 : (3 : Int32).toNatClampNeg = 3 := by decide
theorem tn_4 : (4 : Int32).toNatClampNeg = 4 := by decide
theorem tn_5 : (5 : Int32).toNatClampNeg = 5 := by decide
theorem tn_6 : (6 : Int32).toNatClampNeg = 6 := by decide
theorem tn_7 : (7 : Int32).toNatClampNeg = 7 := by decide
theorem tn_8 : (8 : Int32).toNatClampNeg = 8 := by decide
theorem tn_9 : (9 : Int32).toNatClampNeg = 9 := by decide
theorem tn_10 : (10 : Int32).toNatClampNeg = 10 := by decide
theorem tn_11 : (11 : Int32).toNatClampNeg = 11 := by decide
theorem tn_12 : (12 : Int32).toNatClampNeg = 12 := by decide
theorem tn_13 : (13 : Int32).toNatClampNeg = 13 := by decide
theorem tn_14 : (14 : Int32).toNatClampNeg = 14 := by decide
theorem tn_15 : (15 : Int32).toNatClampNeg = 15 := by decide
theorem tn_16 : (16 : Int32).toNatClampNeg = 16 := by decide
theorem tn_366 : (366 : Int32).toNatClampNeg = 366 := by decide
