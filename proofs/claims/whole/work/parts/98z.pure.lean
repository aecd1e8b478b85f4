/-! PURE 98z: who sits where: the reference. -/
section
variable {G : GG} {own : Nat → Nat} {R X c t U : Nat} {h h1 h2 h' : AH} {w w' w1 w2 w3 x x1 x2 x' : MS} {v v' : VV}
/-- rows of the seats -/
def SeF (w w' : MS) : Prop := (∀ r, r ≠ 0 → (r < 58 ∨ 61 < r) → w'.1 r = w.1 r) ∧ ∀ k, k ≠ 62 → k ≠ 63 → k ≠ 64 → w'.1 0 k = w.1 0 k
theorem SeF.rf : SeF w w := ⟨fun _ _ _ => rfl, fun _ _ _ _ => rfl⟩
theorem SeF.tr (a : SeF w w1) (b : SeF w1 w2) : SeF w w2 := ⟨fun r h1 h2 => (b.1 r h1 h2).trans (a.1 r h1 h2), fun k h1 h2 h3 => (b.2 k h1 h2 h3).trans (a.2 k h1 h2 h3)⟩
theorem SeF.si {k i : Nat} {y : Int32} (hk : 58 ≤ k ∧ k ≤ 61) : SeF w (w_si w k i y) := ⟨fun r h1 h2 => w_si_r (by omega), fun j _ _ _ => by rw [w_si_r (by omega)]⟩
theorem SeF.s0 {i : Nat} {y : Int32} (hi : i = 62 ∨ i = 63 ∨ i = 64) : SeF w (w_si w 0 i y) := ⟨fun r h1 h2 => w_si_r h1, fun j h1 h2 h3 => w_si_j (by omega)⟩
theorem SeF.st (hS : St w.1) (hF : SeF w w') : St w'.1 := hS.cg (fun r q1 q2 _ => hF.1 r (by omega) (by omega))
theorem SeF.wq (hF : SeF w w') : WQ w w' := ⟨PW.of (fun r q1 q2 => hF.1 r (by omega) (by omega)), fun k hk => hF.2 k (by omega) (by omega) (by omega), fun r hr => hF.1 r (by omega) (by omega), fun j _ => by rw [hF.1 81 (by omega) (by omega)]⟩
theorem SeF.sit (hF : SeF w w') (s : Int32) : sitV w'.1 s = sitV w.1 s := by unfold sitV sN; rw [hF.1 1 (by omega) (by omega), hF.1 9 (by omega) (by omega)]
theorem SeF.N (hF : SeF w w') : sN w'.1 = sN w.1 := by unfold sN; rw [hF.1 1 (by omega) (by omega)]
theorem pers_loop (hS : St w.1) : ∀ (d q n : Nat) (w' : MS), q + d = sN w.1 → d < n → SeF w w' → w'.1 0 62 = nI (rowC (sit1 w.1) q) → (∀ k, k < rowC (sit1 w.1) q → w'.1 58 k = nI (sq w.1 k)) → ∃ w2, SeF w w2 ∧ w2.1 0 62 = nI (nSt w.1) ∧ (∀ k, k < nSt w.1 → w2.1 58 k = nI (sq w.1 k)) ∧ ∀ K, lw1 (P_X12_laysSitters_7 G K) n (nI q) w' = K w2
  | 0, q, n + 1, w', e, _, hF, h1, h2 => by
    have eq : q = sN w.1 := by omega
    subst eq
    refine ⟨w', hF, h1, h2, fun K => ?_⟩
    show P_X12_laysSitters_7 G K _ _ _ = _
    rw [P_X12_laysSitters_7, u_ck ix_17_6, tn_6, hF.1 1 (by omega) (by omega), if_pos (of_eq_true (nle_N hS))]
  | d + 1, q, n + 1, w', e, hn, hF, h1, h2 => by
    have hq : q < sN w.1 := by omega
    have hSx := SeF.st hS hF
    have hqx : q < sN w'.1 := by rw [hF.N]; exact hq
    have h8 := st_N8 hS
    have hle : rowC (sit1 w.1) q ≤ q := rowC_le _ _
    have pre : ∀ K self, P_X12_laysSitters_7 G K self (nI q) w' = if w.1 9 q = -1 then self (nI (q + 1)) w' else self (nI (q + 1)) (w_si (w_si w' 58 (rowC (sit1 w.1) q) (nI q)) 0 62 (nI (rowC (sit1 w.1) q + 1))) := fun K self => by
      have e9 : w'.1 9 = w.1 9 := hF.1 9 (by omega) (by omega)
      have e10 : w'.1 10 = w.1 10 := hF.1 10 (by omega) (by omega)
      rw [P_X12_laysSitters_7, u_ck ix_17_6, tn_6, hF.1 1 (by omega) (by omega), if_neg (of_eq_false (nle_q hS hq)), p_rides hSx hqx, u_cw, u_nn, e10]
      by_cases z : w.1 9 q = -1
      · rw [if_pos z]
        by_cases y : w.1 10 q = 0
        · rw [if_pos y]; dsimp only; rw [u_nn, nI_1]
        · rw [if_neg y, u_ck (q8 hSx hqx), qc hSx hqx, e9, if_pos z]; dsimp only; rw [u_nn, nI_1]
      · have y : ¬ w.1 10 q = 0 := by rw [(st_P hS hq).2.2.2.2.2.2.2.2.2.1 z]; decide
        rw [if_neg z, if_neg y, u_ck (q8 hSx hqx), qc hSx hqx, e9, if_neg z, h1, u_ck (u_ixn (by omega) (by decide)), u_nn, u_nn, nI_clamp (by omega), w_si_r (by decide), h1, nI_1]
        dsimp only; rw [u_nn, nI_1]
    by_cases z : w.1 9 q = -1
    · have er : rowC (sit1 w.1) (q + 1) = rowC (sit1 w.1) q := by rw [rowC_s, if_neg (by unfold sit1; rw [decide_eq_true_eq]; exact fun y => y z), Nat.add_zero]
      obtain ⟨h3, a1, a2, a3, a4⟩ := pers_loop hS d (q + 1) n w' (by omega) (by omega) hF (by rw [er]; exact h1) (by rw [er]; exact h2)
      refine ⟨h3, a1, a2, a3, fun K => ?_⟩
      show P_X12_laysSitters_7 G K _ _ _ = _
      rw [pre, if_pos z]; exact a4 K
    · have zs : sit1 w.1 q = true := decide_eq_true z
      have er : rowC (sit1 w.1) (q + 1) = rowC (sit1 w.1) q + 1 := by rw [rowC_s, if_pos zs]
      obtain ⟨h3, a1, a2, a3, a4⟩ := pers_loop hS d (q + 1) n (w_si (w_si w' 58 (rowC (sit1 w.1) q) (nI q)) 0 62 (nI (rowC (sit1 w.1) q + 1))) (by omega) (by omega) ((hF.tr (SeF.si (by omega))).tr (SeF.s0 (Or.inl rfl))) (by rw [w_si_s, er]) (fun k hk => by
        rw [w_si_r (by decide)]
        by_cases y : k = rowC (sit1 w.1) q
        · subst y; rw [w_si_s]; unfold sq; rw [enu_at (sit1 w.1) hq zs]
        · rw [w_si_j y]; exact h2 k (by omega))
      refine ⟨h3, a1, a2, a3, fun K => ?_⟩
      show P_X12_laysSitters_7 G K _ _ _ = _
      rw [pre, if_neg z]; exact a4 K
theorem seat_loop (hS : St w.1) : ∀ (d s n : Nat) (w' : MS), s + d = 8 → d < n → SeF w w' → (∀ j, j < rowC (occ w.1) s → w'.1 59 j = nI (enu (occ w.1) 8 j)) → ∃ w2, SeF w w2 ∧ w2.1 0 = w'.1 0 ∧ w2.1 58 = w'.1 58 ∧ (∀ j, j < rowC (occ w.1) 8 → w2.1 59 j = nI (enu (occ w.1) 8 j)) ∧ lw2 (P_X12_laysSitters_66 G) n (nI (rowC (occ w.1) s)) (nI s) w' = some w2
  | 0, s, n + 1, w', e, _, hF, h1 => by
    have es : s = 8 := by omega
    subst es
    refine ⟨w', hF, rfl, rfl, h1, ?_⟩
    show P_X12_laysSitters_66 G _ _ _ _ = _
    rw [P_X12_laysSitters_66, if_pos (show (8 : Int32) ≤ nI 8 from nI_le (a := 8) (by omega) (by omega))]
  | d + 1, s, n + 1, w', e, hn, hF, h1 => by
    have hSx := SeF.st hS hF
    have hle : rowC (occ w.1) s ≤ s := rowC_le _ _
    have hne : nI s ≠ -1 := nI_m1 (by omega)
    have pre : ∀ self, P_X12_laysSitters_66 G self (nI (rowC (occ w.1) s)) (nI s) w' = if sitV w.1 (nI s) = -1 then self (nI (rowC (occ w.1) s)) (nI (s + 1)) w' else self (nI (rowC (occ w.1) s + 1)) (nI (s + 1)) (w_si w' 59 (rowC (occ w.1) s) (nI s)) := fun self => by
      rw [P_X12_laysSitters_66, if_neg (show ¬ (8 : Int32) ≤ nI s from nI_ge (b := 8) (by omega) (by omega)), p_sitterOf hSx hne, u_cw, u_nn, hF.sit]
      by_cases z : sitV w.1 (nI s) = -1
      · rw [if_pos z, if_pos z]; dsimp only; rw [u_nn, nI_1]
      · rw [if_neg z, if_neg z, u_ck (u_ixn (by omega) (by decide)), u_nn, nI_clamp (by omega), u_nn, nI_1]; dsimp only; rw [u_nn, nI_1]
    by_cases z : sitV w.1 (nI s) = -1
    · have er : rowC (occ w.1) (s + 1) = rowC (occ w.1) s := by rw [rowC_s, if_neg (by unfold occ; rw [decide_eq_true_eq]; exact fun y => y z), Nat.add_zero]
      obtain ⟨h3, a1, a2, a3, a4, a5⟩ := seat_loop hS d (s + 1) n w' (by omega) (by omega) hF (by rw [er]; exact h1)
      refine ⟨h3, a1, a2, a3, a4, ?_⟩
      show P_X12_laysSitters_66 G _ _ _ _ = _
      rw [er] at a5
      rw [pre, if_pos z]; exact a5
    · have zs : occ w.1 s = true := decide_eq_true z
      have er : rowC (occ w.1) (s + 1) = rowC (occ w.1) s + 1 := by rw [rowC_s, if_pos zs]
      obtain ⟨h3, a1, a2, a3, a4, a5⟩ := seat_loop hS d (s + 1) n (w_si w' 59 (rowC (occ w.1) s) (nI s)) (by omega) (by omega) (hF.tr (SeF.si (by omega))) (fun k hk => by
        by_cases y : k = rowC (occ w.1) s
        · subst y; rw [w_si_s, enu_at (occ w.1) (by omega) zs]
        · rw [w_si_j y]; exact h1 k (by omega))
      refine ⟨h3, a1, by rw [a2, w_si_r (by decide)], by rw [a3, w_si_r (by decide)], a4, ?_⟩
      show P_X12_laysSitters_66 G _ _ _ _ = _
      rw [er] at a5
      rw [pre, if_neg z]; exact a5
/-- the reference's rows of those who sit and of their seats -/
def SiR (v : VV) (w' : MS) : Prop := w'.1 0 62 = nI (nSt v) ∧ (∀ k, k < nSt v → w'.1 58 k = nI (sq v k)) ∧ ∀ j, j < nSt v → w'.1 59 j = nI (enu (occ v) 8 j)
theorem p_laysSitters (hS : St w.1) : ∃ w2, SeF w w2 ∧ SiR w.1 w2 ∧ p_X12_laysSitters G w = some w2 := by
  obtain ⟨wa, a1, a2, a3, a4⟩ := pers_loop (G := G) hS (sN w.1) 0 bN (w_si w 0 62 0) (Nat.zero_add _) (bN8 hS) (SeF.s0 (Or.inl rfl)) (by rw [w_si_s]; rfl) (fun k hk => absurd hk (Nat.not_lt_zero k))
  obtain ⟨wb, b1, b2, b3, b4, b5⟩ := seat_loop (G := G) hS 8 0 bN wa rfl (bN_gt (by decide)) a1 (fun k hk => absurd hk (Nat.not_lt_zero k))
  refine ⟨wb, b1, ⟨by rw [b2]; exact a2, fun k hk => by rw [b3]; exact a3 k hk, fun j hj => b4 j (by rw [occ_cnt hS]; exact hj)⟩, ?_⟩
  unfold p_X12_laysSitters
  rw [u_nn]
  refine (a4 _).trans ?_
  exact b5
/-- a seat's cost in the reference -/
theorem p_costAt (hS : St w.1) (hF : SeF w w') (hR : SiR w.1 w') {b k j : Nat} (hb : b < 6) (hk : k < nSt w.1) (hj : j < nSt w.1) : p_X12_costAt G (nI k) (nI j) (nI b) w' = some (nI (er (coV w.1 b k (enu (occ w.1) 8 j))), w') := by
  have h8 := nSt_8 hS
  have hSx := SeF.st hS hF
  have hq := sq_ok hk
  have hN8 := st_N8 hS
  have hs := enu_ok (occ w.1) (N := 8) (k := j) (by rw [occ_cnt hS]; exact hj)
  have hqx : sq w.1 k < sN w'.1 := by rw [hF.N]; exact hq.1
  obtain ⟨a, ha, ea⟩ := cst_n hS hq.1 hs.1 hb
  have e1 : w'.1 1 = w.1 1 := hF.1 1 (by omega) (by omega)
  have ef : fro w'.1 (sq w.1 k) = fro w.1 (sq w.1 k) := by unfold fro; rw [e1]
  have eu : unV w'.1 (sq w.1 k) (nI (enu (occ w.1) 8 j)) (nI b) + tollV w'.1 (nI b) = nI a := by
    rw [unV_cg (fun r hr => hF.1 r (by omega) (by omega)), tollV_cg (fun r hr => hF.1 r (by omega) (by omega)), ea]
  have x8k : ixn 8 (nI k) = true := u_ixn (by omega) (by decide)
  have x8j : ixn 8 (nI j) = true := u_ixn (by omega) (by decide)
  have el : nI (enu (occ w.1) 8 j) < 4 ↔ enu (occ w.1) 8 j < 4 := nI_ltI (b := 4) (by omega) (by omega)
  unfold p_X12_costAt coV
  rw [u_ck x8j, u_nn, nI_clamp (show j < 2 ^ 31 by omega), hR.2.2 j hj, u_ck x8k, nI_clamp (show k < 2 ^ 31 by omega), hR.2.1 k hk, p_maySit hSx hqx, u_cw, ef]
  by_cases z : enu (occ w.1) 8 j < 4 ∨ fro w.1 (sq w.1 k) = 0
  · rw [if_pos (show nI (enu (occ w.1) 8 j) < 4 ∨ fro w.1 (sq w.1 k) = 0 from z.imp el.mpr id), if_neg n10, if_pos z, u_ck x8k, u_ck ix_17_11, tn_11, u_ck ix_17_10, tn_10, hR.2.1 k hk, p_sufferIn hSx hqx, u_cw, eu, ea, nI_clamp (by omega), show min 10000 a = a by omega]; rfl
  · rw [if_neg (show ¬ (nI (enu (occ w.1) 8 j) < 4 ∨ fro w.1 (sq w.1 k) = 0) from fun q => z (q.imp el.mp id)), if_pos rfl, if_neg z]; rfl
theorem er_stp {a c r : Option Nat} (ha : small a 100000) (hc : small c 10000) (hr : small r 80000) : (if 1000000000 ≤ er c then er a else if 1000000000 ≤ er r then er a else if er a ≤ er c + er r then er a else er c + er r) = er (stp a c r) := by
  unfold stp
  cases c with
  | none => rw [if_pos (show 1000000000 ≤ er none from Nat.le_refl _)]
  | some p =>
    have hp := hc p rfl
    rw [if_neg (show ¬ 1000000000 ≤ er (some p) by show ¬ 1000000000 ≤ p; omega)]
    cases r with
    | none => rw [if_pos (show 1000000000 ≤ er none from Nat.le_refl _)]
    | some q =>
      have hq := hr q rfl
      rw [if_neg (show ¬ 1000000000 ≤ er (some q) by show ¬ 1000000000 ≤ q; omega)]
      cases a with
      | none => rw [if_neg (show ¬ er none ≤ er (some p) + er (some q) by show ¬ 1000000000 ≤ p + q; omega)]; rfl
      | some m =>
        show (if m ≤ p + q then m else p + q) = er (if p + q < m then some (p + q) else some m)
        by_cases z : p + q < m
        · rw [if_pos z, if_neg (by omega)]; rfl
        · rw [if_neg z, if_pos (by omega)]; rfl
theorem er_lt {o : Option Nat} {B : Nat} (h : small o B) (hB : B ≤ 1000000000) : er o ≤ 1000000000 := by
  cases o with
  | none => exact Nat.le_refl _
  | some m => have := h m rfl; show m ≤ _; omega
theorem p_has2 {T j : Nat} (hT : T < 2 ^ 24) (hj : j < 24) : p_X12_has G (nI T) (nI j) w = some (if T.testBit j then 1 else 0, w) := by
  unfold p_X12_has
  rw [bit24 hT hj]
  cases T.testBit j <;> rfl
theorem p_bits {T : Nat} (hT : T < 256) : p_X12_bits G (nI T) w = some (nI (pc T), w) := by
  have key : ∀ (d s n : Nat), s + d = 16 → d < n → lw2 (P_X12_bits_4 G (nI T)) n (nI (rowC T.testBit s)) (nI s) w = some (nI (rowC T.testBit 16), w) := by
    intro d
    induction d with
    | zero =>
      intro s n e hn
      obtain ⟨n, rfl⟩ : ∃ m, n = m + 1 := ⟨n - 1, by omega⟩
      have : s = 16 := by omega
      subst this
      show P_X12_bits_4 G (nI T) _ _ _ _ = _
      rw [P_X12_bits_4, if_pos (show (16 : Int32) ≤ nI 16 from nI_le (a := 16) (by omega) (by omega))]
    | succ d ih =>
      intro s n e hn
      obtain ⟨n, rfl⟩ : ∃ m, n = m + 1 := ⟨n - 1, by omega⟩
      show P_X12_bits_4 G (nI T) _ _ _ _ = _
      have ea : nI (rowC T.testBit s) + (if T.testBit s then 1 else 0) = nI (rowC T.testBit (s + 1)) := by
        rw [rowC_s]
        by_cases z : T.testBit s = true
        · rw [if_pos z, if_pos z]; exact nI_1 _
        · rw [if_neg z, if_neg z]; exact nI_add _ 0
      rw [P_X12_bits_4, if_neg (show ¬ (16 : Int32) ≤ nI s from nI_ge (b := 16) (by omega) (by omega)), bit24 (by omega) (by omega), ea, u_nn, u_nn, nI_1]
      exact ih (s + 1) n (by omega) (by omega)
  have k0 := key 16 0 bN rfl (bN_gt (by decide))
  have e8 := rowC_app T.testBit (N := 8) 8 (fun s hs => Nat.testBit_lt_two_pow (Nat.lt_of_lt_of_le hT (Nat.pow_le_pow_right (n := 2) (i := 8) (by decide) hs)))
  rw [show (8 + 8 : Nat) = 16 from rfl] at e8
  rw [e8] at k0
  exact k0
/-- the least from a row of indices -/
def WP (v : VV) (b T : Nat) : Option Nat := WV v b (phi (occ v) T)
theorem WP_step (hS : St v) {b T : Nat} (hT : T < 2 ^ nSt v) (hp : pc T < nSt v) : WP v b T = fs (fun j a => if T.testBit j then a else stp a (coV v b (pc T) (enu (occ v) 8 j)) (WP v b (T ||| 2 ^ j))) (nSt v) 0 none := by
  have hc := occ_cnt hS
  have hT' : T < 2 ^ rowC (occ v) 8 := by rw [hc]; exact hT
  have hpp := phi_pc (occ v) hT'
  have e : WP v b T = _ := Wt_step (S := phi (occ v) T) (by rw [hpp]; exact hp)
  rw [e, hpp]
  have e2 := fs_comp (occ v) (fun s (a : Option Nat) => if T.testBit (rowC (occ v) s) then a else stp a (coV v b (pc T) s) (Wt (occ v) (coV v b) (nSt v) (phi (occ v) T ||| 2 ^ s))) 8 none 8 (Nat.le_refl _)
  have e3 : fs (fun s a => if occ v s && !(phi (occ v) T).testBit s then stp a (coV v b (pc T) s) (Wt (occ v) (coV v b) (nSt v) (phi (occ v) T ||| 2 ^ s)) else a) 8 0 none = fs (fun s a => if occ v s then (if T.testBit (rowC (occ v) s) then a else stp a (coV v b (pc T) s) (Wt (occ v) (coV v b) (nSt v) (phi (occ v) T ||| 2 ^ s))) else a) 8 0 none := by
    refine fs_cong (fun s _ hs a => ?_)
    rw [phi_bit _ _ (by omega)]
    cases h1 : occ v s
    · rfl
    · cases h2 : T.testBit (rowC (occ v) s) <;> rfl
  rw [e3, e2, hc]
  refine fs_cong (fun j _ hj a => ?_)
  obtain ⟨q1, q2, q3⟩ := enu_ok (occ v) (N := 8) (k := j) (by omega)
  rw [q3]
  by_cases z : T.testBit j = true
  · rw [if_pos z, if_pos z]
  · rw [if_neg z, if_neg z]
    unfold WP WV
    have := phi_or (occ v) T q1 q2
    rw [q3] at this
    rw [this]
end
