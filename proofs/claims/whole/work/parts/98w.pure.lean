/-! PURE 98w: who sits where: the class. -/
section
variable {G : GG} {own : Nat → Nat} {R X c t U : Nat} {h h1 h2 h' : AH} {w w' w1 w2 w3 x x1 x2 x' : MS} {v v' : VV}
def sit1 (v : VV) (q : Nat) : Bool := decide (v 9 q ≠ -1)
def occ (v : VV) (s : Nat) : Bool := decide (sitV v (nI s) ≠ -1)
def nSt (v : VV) : Nat := rowC (sit1 v) (sN v)
def sq (v : VV) (k : Nat) : Nat := enu (sit1 v) (sN v) k
def fk (v : VV) (k s : Nat) : Bool := (ff (fun q => decide (v 9 q = nI s)) k 0).isSome
theorem occ_ff (hN : sN v ≤ 8) (s : Nat) : occ v s = fk v (sN v) s := by
  unfold occ sitV fk
  cases hff : ff (fun q => decide (v 9 q = nI s)) (sN v) 0 with
  | none => rfl
  | some q =>
    have := ff_some hff
    exact decide_eq_true (nI_m1 (by omega))
theorem nSt_8 (hS : St v) : nSt v ≤ 8 := Nat.le_trans (rowC_le _ _) (st_N8 hS)
theorem fk_s (v : VV) (k s : Nat) : fk v (k + 1) s = (fk v k s || decide (v 9 k = nI s)) := by
  unfold fk
  have fa : ff (fun q => decide (v 9 q = nI s)) (k + 1) 0 = match ff (fun q => decide (v 9 q = nI s)) k 0 with | some j => some j | none => ff (fun q => decide (v 9 q = nI s)) 1 (0 + k) := ff_app
  rw [fa]
  cases ff (fun q => decide (v 9 q = nI s)) k 0 with
  | some j => rfl
  | none =>
    show (ff (fun q => decide (v 9 q = nI s)) 1 (0 + k)).isSome = _
    rw [Nat.zero_add]
    show (if decide (v 9 k = nI s) = true then some k else none).isSome = _
    by_cases z : v 9 k = nI s
    · rw [decide_eq_true z]; rfl
    · rw [decide_eq_false z]; rfl
theorem fk_no (hS : St v) {k s0 : Nat} (hk : k < sN v) (h8 : s0 < 8) (e0 : v 9 k = nI s0) : fk v k s0 = false := by
  unfold fk
  cases hff : ff (fun q => decide (v 9 q = nI s0)) k 0 with
  | none => rfl
  | some j =>
    obtain ⟨-, j1, j2, -⟩ := ff_some hff
    have j2 := of_decide_eq_true j2
    have := st_D hS (q := j) (r := k) (by omega) (by omega) (by rw [j2]; exact nI_m1 (by omega)) (by rw [j2, e0])
    omega
theorem fk_cnt (hS : St v) : ∀ k, k ≤ sN v → rowC (fk v k) 8 = rowC (sit1 v) k
  | 0, _ => (rowC_0 (fk v 0) 8).mpr (fun _ _ => rfl)
  | k + 1, hk => by
    have ih := fk_cnt hS k (by omega)
    rw [rowC_s (sit1 v), ← ih]
    by_cases z : v 9 k = -1
    · rw [if_neg (show ¬ sit1 v k = true by unfold sit1; rw [decide_eq_true_eq]; exact fun q => q z), Nat.add_zero]
      refine rowC_cong (f := fk v (k + 1)) (g := fk v k) (N := 8) (fun s hs => ?_)
      rw [fk_s, z, decide_eq_false (fun q => nI_m1 (q := s) (by omega) q.symm), Bool.or_false]
    · rw [if_pos (show sit1 v k = true from decide_eq_true z)]
      obtain ⟨s0, h8, e0⟩ := sit_s hS (q := k) (by omega) z
      have h1 := rowC_cong (f := fk v (k + 1)) (g := fun s => (fk v k s || decide (s = s0))) (N := 8) (fun s hs => by
        rw [fk_s, e0]
        have : decide (nI s0 = nI s) = decide (s = s0) := decide_eq_decide.mpr ⟨fun q => (nI_inj8 h8 hs q).symm, fun q => by rw [q]⟩
        rw [this])
      have h2 := rowC_one (f := fk v k) (g := fun s => (fk v k s || decide (s = s0))) (fk_no hS (by omega) h8 e0) (fun _ => rfl) 8
      rw [h1, h2, if_pos h8]
theorem occ_cnt (hS : St v) : rowC (occ v) 8 = nSt v := by
  have h1 := fk_cnt hS (sN v) (Nat.le_refl _)
  have h2 := rowC_cong (f := occ v) (g := fk v (sN v)) (N := 8) (fun s _ => occ_ff (st_N8 hS) s)
  rw [h2]; exact h1
theorem sq60 : ∀ k : Nat, k < 121 → ((Int32.ofInt (-60 + k)) * (Int32.ofInt (-60 + k))).toNatClampNeg ≤ 3600 ∧ (Int32.ofInt (-60 + k)) * (Int32.ofInt (-60 + k)) = nI ((Int32.ofInt (-60 + k)) * (Int32.ofInt (-60 + k))).toNatClampNeg := by decide +kernel
theorem air_all : ∀ s : Nat, s < 8 → ∀ b : Nat, b < 6 → bd (airI (nI s) (nI b)) 0 20 := by unfold bd; decide +kernel
theorem sq_n {y : Int32} (h : bd y (-60) 60) : ∃ a : Nat, a ≤ 3600 ∧ y * y = nI a := by
  obtain ⟨k, h1, h2⟩ := bd_of h
  have := sq60 k (by omega)
  rw [← h2] at this
  exact ⟨_, this.1, this.2⟩
theorem sub_bd {a b : Int32} {p q : Int} (h1 : bd a 0 p) (h2 : bd b 0 q) (hp : p ≤ 60) (hq : q ≤ 60) : bd (a - b) (-60) 60 := by
  have a1 := h1.1; have a2 := h1.2; have b1 := h2.1; have b2 := h2.2
  unfold bd
  rw [I_sub (by omega) (by omega)]; omega
theorem cst_n (hS : St v) {q s b : Nat} (hq : q < sN v) (hs : s < 8) (hb : b < 6) : ∃ a : Nat, a ≤ 10000 ∧ unV v q (nI s) (nI b) + tollV v (nI b) = nI a := by
  obtain ⟨a1, h1, e1⟩ := sq_n (sub_bd (st_warm hS) (st_P hS hq).2.2.2.2.1 (by decide) (by decide))
  obtain ⟨a2, h2, e2⟩ := sq_n (sub_bd (air_all s hs b hb) (st_P hS hq).2.2.2.2.2.1 (by decide) (by decide))
  have e3 : ∃ a3 : Nat, a3 ≤ 45 ∧ tollV v (nI b) = nI a3 := by
    unfold tollV
    by_cases z : tunV v (v 1 10) = true
    · rw [if_pos z]; exact ⟨9 * b, by omega, pk_mul 9 b⟩
    · rw [if_neg z]; exact ⟨0, by omega, rfl⟩
  obtain ⟨a3, h3, e3⟩ := e3
  refine ⟨a1 + a2 + a3, by omega, ?_⟩
  unfold unV
  rw [e1, e2, e3, nI_add, nI_add]
def coV (v : VV) (b k s : Nat) : Option Nat := if s < 4 ∨ fro v (sq v k) = 0 then some (min 10000 (unV v (sq v k) (nI s) (nI b) + tollV v (nI b)).toNatClampNeg) else none
theorem coV_small (v : VV) (b k s : Nat) : small (coV v b k s) 10000 := fun m hm => by
  unfold coV at hm
  by_cases z : s < 4 ∨ fro v (sq v k) = 0
  · rw [if_pos z] at hm; cases hm; omega
  · rw [if_neg z] at hm; cases hm
/-- numbers for a cost: none is more than all -/
def en (o : Option Nat) : Nat := match o with | none => 268435456 | some m => m
def er (o : Option Nat) : Nat := match o with | none => 1000000000 | some m => m
theorem en_stp {a c r : Option Nat} (ha : small a 100000) (hc : small c 10000) (hr : small r 80000) : (if en c + en r < en a then en c + en r else en a) = en (stp a c r) := by
  unfold stp
  cases c with
  | none =>
    have : en a ≤ 268435456 := by cases a with | none => exact Nat.le_refl _ | some m => have := ha m rfl; show m ≤ _; omega
    rw [if_neg (by show ¬ 268435456 + en r < en a; omega)]
  | some p =>
    cases r with
    | none =>
      have : en a ≤ 268435456 := by cases a with | none => exact Nat.le_refl _ | some m => have := ha m rfl; show m ≤ _; omega
      rw [if_neg (by show ¬ p + 268435456 < en a; omega)]
    | some q =>
      have hp := hc p rfl
      have hq := hr q rfl
      cases a with
      | none => rw [if_pos (by show p + q < 268435456; omega)]; rfl
      | some m =>
        show (if p + q < m then p + q else m) = en (if p + q < m then some (p + q) else some m)
        by_cases z : p + q < m
        · rw [if_pos z, if_pos z]; rfl
        · rw [if_neg z, if_neg z]; rfl
theorem en_lt {o : Option Nat} {B : Nat} (h : small o B) (hB : B ≤ 268435456) : en o ≤ 268435456 := by
  cases o with
  | none => exact Nat.le_refl _
  | some m => have := h m rfl; show m ≤ _; omega
theorem en_met {c r : Option Nat} {m : Nat} (hm : m < 268435456) : en c + en r = m ↔ stp none c r = some m := by
  unfold stp
  cases c with
  | none => exact ⟨fun e => by have : 268435456 + en r = m := e; omega, fun e => by cases e⟩
  | some p =>
    cases r with
    | none => exact ⟨fun e => by have : p + 268435456 = m := e; omega, fun e => by cases e⟩
    | some q => exact ⟨fun e => congrArg some e, fun e => Option.some.inj e⟩
/-- bits of rows of seats -/
theorem u_xor (a b : Nat) : nI a ^^^ nI b = nI (a ^^^ b) := by
  show Int32.ofNat a ^^^ Int32.ofNat b = Int32.ofNat (a ^^^ b)
  rw [← Int32.toBitVec_inj, Int32.toBitVec_xor, Int32.toBitVec_ofNat', Int32.toBitVec_ofNat', Int32.toBitVec_ofNat', BitVec.ofNat_xor]
theorem m1_n : (-1 : Int32) = nI 4294967295 := by decide
theorem not_bit (S : Nat) {s : Nat} (hs : s < 8) : (S ^^^ 4294967295).testBit s = !S.testBit s := by
  rw [Nat.testBit_xor, show (4294967295 : Nat) = 2 ^ 32 - 1 by decide, Nat.testBit_two_pow_sub_one, decide_eq_true (by omega), Bool.xor_true]
theorem c_isFree {B S s : Nat} (hB : B < 256) (hs : s < 8) : f_X7_isFree G (nI s) (nI S) (nI B) h = some (if B.testBit s && !S.testBit s then 1 else 0, h) := by
  unfold f_X7_isFree
  have hl : B &&& (S ^^^ 4294967295) ≤ B := Nat.and_le_left
  rw [m1_n, u_xor, u_and, bit24 (by omega) (by omega), Nat.testBit_and, not_bit S hs]
  cases (B.testBit s && !S.testBit s) <;> rfl
def Sub (S B : Nat) : Prop := S &&& (B ^^^ 4294967295) = 0
theorem byte_eq {S S' : Nat} (h1 : S < 256) (h2 : S' < 256) (e : ∀ s, s < 8 → S.testBit s = S'.testBit s) : S = S' := by
  refine Nat.eq_of_testBit_eq (fun s => ?_)
  by_cases hs : s < 8
  · exact e s hs
  · have hp : 2 ^ 8 ≤ 2 ^ s := Nat.pow_le_pow_right (by decide) (by omega)
    rw [Nat.testBit_lt_two_pow (Nat.lt_of_lt_of_le h1 hp), Nat.testBit_lt_two_pow (Nat.lt_of_lt_of_le h2 hp)]
theorem Sub_iff {S B : Nat} (hS : S < 256) : Sub S B ↔ ∀ s, s < 8 → S.testBit s = true → B.testBit s = true := by
  unfold Sub
  constructor
  · intro e s hs h
    have := congrArg (fun n => n.testBit s) e
    simp only [Nat.testBit_and, not_bit B hs, h, Bool.true_and, Nat.zero_testBit] at this
    cases hB : B.testBit s
    · rw [hB] at this; cases this
    · rfl
  · intro e
    refine byte_eq (Nat.lt_of_le_of_lt Nat.and_le_left hS) (by decide) (fun s hs => ?_)
    rw [Nat.testBit_and, not_bit B hs, Nat.zero_testBit]
    cases h : S.testBit s
    · rfl
    · rw [e s hs h]; rfl
theorem Sub_le {S B : Nat} (hS : S < 256) (hB : B < 256) (h : Sub S B) : S ≤ B := by
  have : S &&& B = S := byte_eq (Nat.lt_of_le_of_lt Nat.and_le_left hS) hS (fun s hs => by
    rw [Nat.testBit_and]
    cases z : S.testBit s
    · rfl
    · rw [(Sub_iff hS).mp h s hs z]; rfl)
  rw [← this]; exact Nat.and_le_right
theorem or_lt {S s : Nat} (hS : S < 256) (hs : s < 8) : S ||| 2 ^ s < 256 := Nat.or_lt_two_pow (n := 8) hS (Nat.pow_lt_pow_right (a := 2) (by decide) hs)
theorem or_up {S s : Nat} (h : S.testBit s = false) : S < S ||| 2 ^ s := by
  have h1 : S ≤ S ||| 2 ^ s := Nat.left_le_or
  rcases Nat.eq_or_lt_of_le h1 with e | e
  · have := congrArg (fun n => n.testBit s) e
    simp only [Nat.testBit_or, Nat.testBit_two_pow_self, h, Bool.or_true] at this
    cases this
  · exact e
theorem Sub_or {S B s : Nat} (hS : S < 256) (hs : s < 8) (h : Sub S B) (hb : B.testBit s = true) : Sub (S ||| 2 ^ s) B := by
  rw [Sub_iff (or_lt hS hs)]
  intro r hr hr2
  rw [Nat.testBit_or, Nat.testBit_two_pow] at hr2
  by_cases z : s = r
  · subst z; exact hb
  · rw [decide_eq_false z, Bool.or_false] at hr2
    exact (Sub_iff hS).mp h r hr hr2
theorem bc_pc {S : Nat} (hS : S < 256) : bcI (nI S) = nI (pc S) := by
  rw [bcI_N (by omega)]
  have : S = rowN S.testBit 8 := byte_eq hS (rowN_lt _ 8) (fun s hs => (rowN_bit _ _ _ hs).symm)
  rw [show bcN S = bcN (rowN S.testBit 8) from congrArg bcN this, rowN_bc _ 8 (by decide)]; rfl
theorem or_e {S s : Nat} (hs : s < 8) : nI S ||| ((1 : Int32) <<< (nI s &&& 31)) = nI (S ||| 2 ^ s) := by
  rw [sh24 s (by omega), u_or]
theorem i8 (k s : Nat) : nI k * 8 + nI s = nI (8 * k + s) := by
  show nI k * nI 8 + nI s = _
  rw [pk_mul, nI_add, Nat.mul_comm]
theorem GT.fr {S : Nat → Prop} (hG : GT h X) (hF : Fr S h h') : GT h' X := by unfold GT at hG ⊢; rw [hF.1, hF.2.1]; exact hG
/-- those who sit, in a row -/
theorem gather_loop (hC : Cab h c t v) (hS : St v) (hX : X + 58 ≤ c ∧ X + 58 ≤ t) (hG : GT h X) : ∀ (d q n : Nat) (h' : AH), q + d = sN v → d < n → Fr (fun a => a = X + 39 ∨ a = X + 40) h h' → m_i h' (X + 39) 1 = nI (rowC (sit1 v) q) → (∀ k, k < rowC (sit1 v) q → m_i h' (X + 40) k = nI (sq v k)) → ∃ h2, Fr (fun a => a = X + 39 ∨ a = X + 40) h h2 ∧ m_i h2 (X + 39) 1 = nI (nSt v) ∧ (∀ k, k < nSt v → m_i h2 (X + 40) k = nI (sq v k)) ∧ lq1 (F_X7_gatherSitters_7 G (X + 39) c) n (nI q) h' = some h2
  | 0, q, n + 1, h', e, _, hF, h1, h2 => by
    have eq : q = sN v := by omega
    subst eq
    have hC' : Cab h' c t v := hC.fr (st_N8 hS) hF (fun a ha => by omega)
    refine ⟨h', hF, h1, h2, ?_⟩
    show F_X7_gatherSitters_7 G (X + 39) c _ _ _ = _
    rw [F_X7_gatherSitters_7, u_ck (cab_t hC'), cab_0 hC', u_ob, u_ck (tr_t hC'), tr_i5 hC', if_pos (of_eq_true (nle_N hS))]
  | d + 1, q, n + 1, h', e, hn, hF, h1, h2 => by
    have hq : q < sN v := by omega
    have h8 := st_N8 hS
    have hle : rowC (sit1 v) q ≤ q := rowC_le _ _
    have hC' : Cab h' c t v := hC.fr (st_N8 hS) hF (fun a ha => by omega)
    have hG' := hG.fr hF
    have pre : ∀ self, F_X7_gatherSitters_7 G (X + 39) c self (nI q) h' = if v 9 q = -1 then self (nI (q + 1)) h' else self (nI (q + 1)) (m_si (m_si h' (X + 40) (rowC (sit1 v) q) (nI q)) (X + 39) 1 (nI (rowC (sit1 v) q + 1))) := fun self => by
      rw [F_X7_gatherSitters_7, u_ck (cab_t hC'), cab_0 hC', u_ob, u_ck (tr_t hC'), tr_i5 hC', if_neg (of_eq_false (nle_q hS hq)), cab_6 hC', u_ob, u_ck (cab_x1 hC' hS hq), u_nn, qc hS hq, cab_v1 hC' hq]
      by_cases z : v 9 q = -1
      · rw [if_pos z, if_pos z]; dsimp only; rw [u_nn, nI_1]
      · rw [if_neg z, if_neg z, u_ck hG'.1, hG'.2.1, u_ob, h1, u_ck (ixb_e (n := 8) hG'.2.2.2.2.2.1 (by omega) (by decide)), u_nn, u_nn, nI_clamp (by omega), m_i_sb (show X + 39 ≠ X + 40 by omega), h1, nI_1]
        dsimp only; rw [u_nn, nI_1]
    by_cases z : v 9 q = -1
    · have er : rowC (sit1 v) (q + 1) = rowC (sit1 v) q := by rw [rowC_s, if_neg (by unfold sit1; rw [decide_eq_true_eq]; exact fun y => y z), Nat.add_zero]
      obtain ⟨h3, a1, a2, a3, a4⟩ := gather_loop hC hS hX hG d (q + 1) n h' (by omega) (by omega) hF (by rw [er]; exact h1) (by rw [er]; exact h2)
      refine ⟨h3, a1, a2, a3, ?_⟩
      show F_X7_gatherSitters_7 G (X + 39) c _ _ _ = _
      rw [pre, if_pos z]; exact a4
    · have zs : sit1 v q = true := decide_eq_true z
      have er : rowC (sit1 v) (q + 1) = rowC (sit1 v) q + 1 := by rw [rowC_s, if_pos zs]
      obtain ⟨h3, a1, a2, a3, a4⟩ := gather_loop hC hS hX hG d (q + 1) n (m_si (m_si h' (X + 40) (rowC (sit1 v) q) (nI q)) (X + 39) 1 (nI (rowC (sit1 v) q + 1))) (by omega) (by omega) ((hF.tr (Fr.si (Or.inr rfl))).tr (Fr.si (Or.inl rfl))) (by rw [m_i_ss, er]) (fun k hk => by
        rw [m_i_sb (by omega)]
        by_cases y : k = rowC (sit1 v) q
        · subst y; rw [m_i_ss]; unfold sq; rw [enu_at (sit1 v) hq zs]
        · rw [m_i_sj y]; exact h2 k (by omega))
      refine ⟨h3, a1, a2, a3, ?_⟩
      show F_X7_gatherSitters_7 G (X + 39) c _ _ _ = _
      rw [pre, if_neg z]; exact a4
end
