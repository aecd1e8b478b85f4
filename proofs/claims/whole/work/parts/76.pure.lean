/-! PURE 76: views that agree where it matters; what can be undone. -/
def PW (v v' : VV) : Prop := ∀ r, 1 ≤ r → r ≤ 19 → ∀ i, i < mln r → v' r i = v r i
theorem PW.rf {v : VV} : PW v v := fun _ _ _ _ _ => rfl
theorem PW.tr {v v1 v2 : VV} (a : PW v v1) (b : PW v1 v2) : PW v v2 := fun r h1 h2 i hi => (b r h1 h2 i hi).trans (a r h1 h2 i hi)
theorem PW.sy {v v1 : VV} (a : PW v v1) : PW v1 v := fun r h1 h2 i hi => (a r h1 h2 i hi).symm
theorem PW.of {v v' : VV} (e : ∀ r, 1 ≤ r → r ≤ 19 → v' r = v r) : PW v v' := fun r h1 h2 i _ => by rw [e r h1 h2]
section
variable {v v' : VV} (e : PW v v')
theorem pw1 {v v' : VV} (e : PW v v') {i : Nat} (hi : i < 17) : v' 1 i = v 1 i := e 1 (by decide) (by decide) i hi
theorem pw2 {v v' : VV} (e : PW v v') {i : Nat} (hi : i < 7) : v' 2 i = v 2 i := e 2 (by decide) (by decide) i hi

theorem pw3 {v v' : VV} (e : PW v v') {i : Nat} (hi : i < 8) : v' 3 i = v 3 i := e 3 (by decide) (by decide) i hi
theorem pw4 {v v' : VV} (e : PW v v') {i : Nat} (hi : i < 8) : v' 4 i = v 4 i := e 4 (by decide) (by decide) i hi
theorem pw5 {v v' : VV} (e : PW v v') {i : Nat} (hi : i < 8) : v' 5 i = v 5 i := e 5 (by decide) (by decide) i hi
theorem pw6 {v v' : VV} (e : PW v v') {i : Nat} (hi : i < 8) : v' 6 i = v 6 i := e 6 (by decide) (by decide) i hi
theorem pw7 {v v' : VV} (e : PW v v') {i : Nat} (hi : i < 8) : v' 7 i = v 7 i := e 7 (by decide) (by decide) i hi
theorem pw8 {v v' : VV} (e : PW v v') {i : Nat} (hi : i < 8) : v' 8 i = v 8 i := e 8 (by decide) (by decide) i hi
theorem pw9 {v v' : VV} (e : PW v v') {i : Nat} (hi : i < 8) : v' 9 i = v 9 i := e 9 (by decide) (by decide) i hi
theorem pw10 {v v' : VV} (e : PW v v') {i : Nat} (hi : i < 8) : v' 10 i = v 10 i := e 10 (by decide) (by decide) i hi
theorem pw11 {v v' : VV} (e : PW v v') {i : Nat} (hi : i < 8) : v' 11 i = v 11 i := e 11 (by decide) (by decide) i hi
theorem pw12 {v v' : VV} (e : PW v v') {i : Nat} (hi : i < 8) : v' 12 i = v 12 i := e 12 (by decide) (by decide) i hi
theorem pw13 {v v' : VV} (e : PW v v') {i : Nat} (hi : i < 5) : v' 13 i = v 13 i := e 13 (by decide) (by decide) i hi
theorem pw14 {v v' : VV} (e : PW v v') {i : Nat} (hi : i < 5) : v' 14 i = v 14 i := e 14 (by decide) (by decide) i hi
theorem pw15 {v v' : VV} (e : PW v v') {i : Nat} (hi : i < 5) : v' 15 i = v 15 i := e 15 (by decide) (by decide) i hi
theorem pw16 {v v' : VV} (e : PW v v') {i : Nat} (hi : i < 5) : v' 16 i = v 16 i := e 16 (by decide) (by decide) i hi
theorem pw17 {v v' : VV} (e : PW v v') {i : Nat} (hi : i < 5) : v' 17 i = v 17 i := e 17 (by decide) (by decide) i hi
theorem pw18 {v v' : VV} (e : PW v v') {i : Nat} (hi : i < 10) : v' 18 i = v 18 i := e 18 (by decide) (by decide) i hi
theorem pw19 {v v' : VV} (e : PW v v') {i : Nat} (hi : i < 10) : v' 19 i = v 19 i := e 19 (by decide) (by decide) i hi
end
def PW3 (v v' : VV) : Prop := ∀ r, 1 ≤ r → r ≤ 17 → ∀ i, i < mln r → (r = 1 → i < 14) → v' r i = v r i
theorem PW.p3 {v v' : VV} (e : PW v v') : PW3 v v' := fun r h1 h2 i hi _ => e r h1 (by omega) i hi
theorem px1 {v v' : VV} (e : PW3 v v') {i : Nat} (hi : i < 14) : v' 1 i = v 1 i := e 1 (by decide) (by decide) i (by show i < 17; omega) (fun _ => hi)
theorem px2 {v v' : VV} (e : PW3 v v') {i : Nat} (hi : i < 7) : v' 2 i = v 2 i := e 2 (by decide) (by decide) i hi (fun h => absurd h (by decide))
theorem px3 {v v' : VV} (e : PW3 v v') {i : Nat} (hi : i < 8) : v' 3 i = v 3 i := e 3 (by decide) (by decide) i hi (fun h => absurd h (by decide))
theorem px4 {v v' : VV} (e : PW3 v v') {i : Nat} (hi : i < 8) : v' 4 i = v 4 i := e 4 (by decide) (by decide) i hi (fun h => absurd h (by decide))
theorem px5 {v v' : VV} (e : PW3 v v') {i : Nat} (hi : i < 8) : v' 5 i = v 5 i := e 5 (by decide) (by decide) i hi (fun h => absurd h (by decide))
theorem px6 {v v' : VV} (e : PW3 v v') {i : Nat} (hi : i < 8) : v' 6 i = v 6 i := e 6 (by decide) (by decide) i hi (fun h => absurd h (by decide))
theorem px7 {v v' : VV} (e : PW3 v v') {i : Nat} (hi : i < 8) : v' 7 i = v 7 i := e 7 (by decide) (by decide) i hi (fun h => absurd h (by decide))
theorem px8 {v v' : VV} (e : PW3 v v') {i : Nat} (hi : i < 8) : v' 8 i = v 8 i := e 8 (by decide) (by decide) i hi (fun h => absurd h (by decide))
theorem px9 {v v' : VV} (e : PW3 v v') {i : Nat} (hi : i < 8) : v' 9 i = v 9 i := e 9 (by decide) (by decide) i hi (fun h => absurd h (by decide))
theorem px10 {v v' : VV} (e : PW3 v v') {i : Nat} (hi : i < 8) : v' 10 i = v 10 i := e 10 (by decide) (by decide) i hi (fun h => absurd h (by decide))
theorem px11 {v v' : VV} (e : PW3 v v') {i : Nat} (hi : i < 8) : v' 11 i = v 11 i := e 11 (by decide) (by decide) i hi (fun h => absurd h (by decide))
theorem px12 {v v' : VV} (e : PW3 v v') {i : Nat} (hi : i < 8) : v' 12 i = v 12 i := e 12 (by decide) (by decide) i hi (fun h => absurd h (by decide))
theorem px13 {v v' : VV} (e : PW3 v v') {i : Nat} (hi : i < 5) : v' 13 i = v 13 i := e 13 (by decide) (by decide) i hi (fun h => absurd h (by decide))
theorem px14 {v v' : VV} (e : PW3 v v') {i : Nat} (hi : i < 5) : v' 14 i = v 14 i := e 14 (by decide) (by decide) i hi (fun h => absurd h (by decide))
theorem px15 {v v' : VV} (e : PW3 v v') {i : Nat} (hi : i < 5) : v' 15 i = v 15 i := e 15 (by decide) (by decide) i hi (fun h => absurd h (by decide))
theorem px16 {v v' : VV} (e : PW3 v v') {i : Nat} (hi : i < 5) : v' 16 i = v 16 i := e 16 (by decide) (by decide) i hi (fun h => absurd h (by decide))
theorem px17 {v v' : VV} (e : PW3 v v') {i : Nat} (hi : i < 5) : v' 17 i = v 17 i := e 17 (by decide) (by decide) i hi (fun h => absurd h (by decide))
theorem pwN {v v' : VV} (e : PW3 v v') : sN v' = sN v := by unfold sN; rw [px1 e (by decide)]
theorem pwT {v v' : VV} (e : PW3 v v') : sT v' = sT v := by unfold sT; rw [px1 e (by decide)]
theorem pwC {v v' : VV} (e : PW3 v v') : sC v' = sC v := by unfold sC; rw [px1 e (by decide)]
theorem pwL {v v' : VV} (e : PW3 v v') : sL v' = sL v := by unfold sL; rw [px1 e (by decide)]
theorem pwfro {v v' : VV} (e : PW3 v v') (q : Nat) : fro v' q = fro v q := by unfold fro; rw [px1 e (by decide)]
theorem pwkv {v v' : VV} (e : PW3 v v') {k : Nat} (hk : k < 7) : kv v' k = kv v k := by unfold kv; rw [px1 e (by decide), px2 e hk]
theorem St.pw {v v' : VV} (hS : St v) (e : PW3 v v') : St v' := by
  have h8 := st_N8 hS
  have h5 := st_T5 hS
  have hc5 := st_C5 hS
  obtain ⟨a1, a2, a3, a4, a5, a6, a7, a8, a9, a10, a11, a12, a13, a14, a15⟩ := hS
  unfold St
  rw [pwN e, pwT e, pwC e, pwL e, px1 e (i := 0) (by decide), px1 e (i := 6) (by decide), px1 e (i := 8) (by decide), px1 e (i := 9) (by decide), px1 e (i := 3) (by decide), px1 e (i := 10) (by decide), px1 e (i := 11) (by decide), px1 e (i := 13) (by decide), px1 e (i := 1) (by decide), px1 e (i := 2) (by decide)]
  refine ⟨a1, a2, a3, a4, a5, a6, a7, a8, a9, a10, fun k hk => by rw [pwkv e hk]; exact a11 k hk, fun k hk => by rw [px13 e (by omega), px14 e (by omega)]; exact a12 k hk, fun k hk => by rw [px17 e (by omega)]; exact a13 k hk, fun q hq => ?_, fun q r hq hr => ?_⟩
  · have := a14 q hq
    unfold SP at this ⊢
    rw [px3 e (by omega), px4 e (by omega), px5 e (by omega), px6 e (by omega), px7 e (by omega), px8 e (by omega), px9 e (by omega), px10 e (by omega), px11 e (by omega), pwfro e]
    exact this
  · rw [px9 e (show q < 8 by omega), px9 e (show r < 8 by omega)]; exact a15 q r hq hr
theorem Ab.pw {v v' : VV} (hA : Ab v) (e : PW3 v v') (h8 : sN v ≤ 8) : Ab v' := by
  intro q hq
  rw [pwN e] at hq
  rw [px10 e (by omega), px4 e (by omega), px5 e (by omega), px1 e (by decide)]; exact hA q hq
theorem Cr.pw {v v' : VV} (hA : Cr v) (e : PW3 v v') (h8 : sN v ≤ 8) : Cr v' := by
  intro q hq
  rw [pwN e] at hq
  rw [px11 e (by omega), px1 e (by decide)]; exact hA q hq
theorem KV.pw {K : Int32} {v v' : VV} (h : KV K v) (e : PW3 v v') : KV K v' := by
  obtain ⟨n, h1, h2, h3⟩ := h
  exact ⟨n, h1, h2, fun k hk => by rw [pwkv e hk]; exact h3 k hk⟩
theorem TrV.pw {h : AH} {t : Nat} {v v' : VV} (hT : TrV h t v) (e : PW3 v v') (h8 : sN v ≤ 8) (h5 : sT v ≤ 5) (hc5 : sC v ≤ 5) : TrV h t v' := by
  obtain ⟨b0, b1, b2, b3, b4, b5, b6, b7, b8, b9, b10⟩ := hT
  unfold TrV
  rw [pwN e, pwT e, pwC e, px1 e (i := 0) (by decide), px1 e (i := 1) (by decide), px1 e (i := 2) (by decide), px1 e (i := 3) (by decide), px1 e (i := 4) (by decide), px1 e (i := 6) (by decide), px1 e (i := 8) (by decide), px1 e (i := 9) (by decide)]
  refine ⟨b0, b1, b2, b3, b4, b5, b6, b7, fun k hk => by rw [px13 e (by omega), px14 e (by omega)]; exact b8 k hk, fun k hk => by rw [px15 e (by omega), px16 e (by omega), px17 e (by omega)]; exact b9 k hk, fun q hq => ?_⟩
  rw [px3 e (by omega), px4 e (by omega), px5 e (by omega), px6 e (by omega), px7 e (by omega), pwfro e]; exact b10 q hq
theorem CaV.pw {h : AH} {c : Nat} {v v' : VV} (hC : CaV h c v) (e : PW3 v v') (h8 : sN v ≤ 8) : CaV h c v' := by
  obtain ⟨b0, b1, b2, b3, b4⟩ := hC
  unfold CaV
  rw [pwN e, px1 e (i := 13) (by decide), px1 e (i := 11) (by decide), px1 e (i := 10) (by decide)]
  refine ⟨b0, b1, b2, b3.pw e, fun q hq => ?_⟩
  rw [px8 e (by omega), px9 e (by omega), px11 e (by omega), px12 e (by omega)]; exact b4 q hq
theorem Cab.pw {h : AH} {c t : Nat} {v v' : VV} (hC : Cab h c t v) (hS : St v) (e : PW3 v v') : Cab h c t v' :=
  ⟨hC.1, hC.2.1, hC.2.2.1.pw e (st_N8 hS) (st_T5 hS) (st_C5 hS), hC.2.2.2.1.pw e (st_N8 hS), hC.2.2.2.2⟩
/-- a whole state -/
def Sta (v : VV) : Prop := St v ∧ Ab v ∧ Cr v
theorem Sta.pw {v v' : VV} (h : Sta v) (e : PW3 v v') : Sta v' := ⟨h.1.pw e, h.2.1.pw e (st_N8 h.1), h.2.2.pw e (st_N8 h.1)⟩
/-- the j-th of what can be undone -/
def pst (v : VV) (j : Nat) : VV := fun r i =>
  if r = 1 then (if 10 ≤ i ∧ i < 14 then v 53 (51 * j + (i - 10)) else v 1 i) else if r = 2 then v 53 (51 * j + 4 + i) else if r = 8 then v 53 (51 * j + 11 + i) else if r = 9 then v 53 (51 * j + 19 + i) else if r = 10 then v 53 (51 * j + 27 + i) else if r = 11 then v 53 (51 * j + 35 + i) else if r = 12 then v 53 (51 * j + 43 + i) else v r i
/-- rows that a train keeps -/
def stat (v v' : VV) : Prop := (∀ i, i < 10 → v' 1 i = v 1 i) ∧ (∀ i, 14 ≤ i → i < 17 → v' 1 i = v 1 i) ∧ ∀ r, (3 ≤ r ∧ r ≤ 7) ∨ (13 ≤ r ∧ r ≤ 19) → ∀ i, i < mln r → v' r i = v r i
theorem pst_cg {v v' : VV} {j j' : Nat} (hs : stat v v') (h : ∀ n, n < 51 → v' 53 (51 * j' + n) = v 53 (51 * j + n)) : PW (pst v j) (pst v' j') := by
  intro r h1 h2 i hi
  unfold pst

  by_cases c1 : r = 1
  · subst c1
    simp only [if_true]
    have hi : i < 17 := hi
    by_cases c : 10 ≤ i ∧ i < 14
    · rw [if_pos c, if_pos c]; exact h (i - 10) (by omega)
    · rw [if_neg c, if_neg c]
      by_cases c9 : i < 10
      · exact hs.1 i c9
      · exact hs.2.1 i (by omega) hi
  · rw [if_neg c1, if_neg c1]
    by_cases c2 : r = 2
    · subst c2
      rw [if_pos rfl, if_pos rfl, Nat.add_assoc, Nat.add_assoc]; exact h (4 + i) (by have hi : i < 7 := hi; omega)
    rw [if_neg c2, if_neg c2]
    by_cases c8 : r = 8
    · subst c8
      rw [if_pos rfl, if_pos rfl, Nat.add_assoc, Nat.add_assoc]; exact h (11 + i) (by have hi : i < 8 := hi; omega)
    rw [if_neg c8, if_neg c8]
    by_cases c9 : r = 9
    · subst c9
      rw [if_pos rfl, if_pos rfl, Nat.add_assoc, Nat.add_assoc]; exact h (19 + i) (by have hi : i < 8 := hi; omega)
    rw [if_neg c9, if_neg c9]
    by_cases c10 : r = 10
    · subst c10
      rw [if_pos rfl, if_pos rfl, Nat.add_assoc, Nat.add_assoc]; exact h (27 + i) (by have hi : i < 8 := hi; omega)
    rw [if_neg c10, if_neg c10]
    by_cases c11 : r = 11
    · subst c11
      rw [if_pos rfl, if_pos rfl, Nat.add_assoc, Nat.add_assoc]; exact h (35 + i) (by have hi : i < 8 := hi; omega)
    rw [if_neg c11, if_neg c11]
    by_cases c12 : r = 12
    · subst c12
      rw [if_pos rfl, if_pos rfl, Nat.add_assoc, Nat.add_assoc]; exact h (43 + i) (by have hi : i < 8 := hi; omega)
    rw [if_neg c12, if_neg c12]
    exact hs.2.2 r (by omega) i hi

section
variable {G : GG}
theorem shift_at (K : MS → Option MS) : ∀ (d k n : Nat) (w : MS), k + d = 1020 → 51 ≤ k → d < n → ∃ w', lw1 (P_X12_keepsAct_12 G K) n (nI k) w = K w' ∧ (∀ j, w'.1 53 j = if k - 51 ≤ j ∧ j < 969 then w.1 53 (j + 51) else w.1 53 j) ∧ Fw (fun r => r = 53) w w' ∧ w'.2 = w.2
  | 0, k, n + 1, w, e, hk, _ => by
    refine ⟨w, ?_, fun j => by rw [if_neg (by omega)], Fw.rf, rfl⟩
    show P_X12_keepsAct_12 G K _ _ _ = _
    rw [P_X12_keepsAct_12, if_pos (show (1020 : Int32) ≤ nI k from nI_le (a := 1020) (by omega) (by omega))]
  | d + 1, k, n + 1, w, e, hk, hn => by
    obtain ⟨w', f1, f2, f3, f4⟩ := shift_at K d (k + 1) n (w_si w 53 (k - 51) (w.1 53 k)) (by omega) (by omega) (by omega)
    refine ⟨w', ?_, fun j => ?_, (Fw.si (S := fun r => r = 53) rfl).tr f3, f4⟩
    · show P_X12_keepsAct_12 G K _ _ _ = _
      have e51 : nI k - (51 : Int32) = nI (k - 51) := pk_sub (b := 51) hk
      rw [P_X12_keepsAct_12, if_neg (show ¬ (1020 : Int32) ≤ nI k from nI_ge (b := 1020) (by omega) (by omega)), u_ck (u_ixn (by omega) (by decide)), e51, u_ck (u_ixn (by omega) (by decide)), u_nn, u_nn, nI_clamp (n := k - 51) (by omega), nI_clamp (n := k) (by omega), nI_1]
      exact f1
    · rw [f2]
      by_cases c1 : k + 1 - 51 ≤ j ∧ j < 969
      · rw [if_pos c1, if_pos (by omega), w_si_j (by omega)]
      · rw [if_neg c1]
        by_cases c2 : j = k - 51
        · rw [c2, w_si_s, if_pos (by omega), show k - 51 + 51 = k by omega]
        · rw [if_neg (by omega), w_si_j c2]
theorem pick_P (v : VV) (b : Nat) {n : Nat} (hn : n < 51) : pickS 53 sgP b v (b + n) = if n < 4 then v 1 (10 + n) else if n < 11 then v 2 (n - 4) else if n < 19 then v 8 (n - 11) else if n < 27 then v 9 (n - 19) else if n < 35 then v 10 (n - 27) else if n < 43 then v 11 (n - 35) else v 12 (n - 43) := by
  unfold sgP
  rw [pickS_c, pickS_c, pickS_c, pickS_c, pickS_c, pickS_c, pickS_c, pickS_c, pickS_c, pickS_c]
  by_cases a0 : n = 0
  · subst a0; rw [if_pos (by omega), if_pos (by omega)]; congr 1; omega
  rw [if_neg (by omega)]
  by_cases a1 : n = 1
  · subst a1; rw [if_pos (by omega), if_pos (by omega)]; congr 1; omega
  rw [if_neg (by omega)]
  by_cases a2 : n = 2
  · subst a2; rw [if_pos (by omega), if_pos (by omega)]; congr 1; omega
  rw [if_neg (by omega)]
  by_cases a3 : n = 3
  · subst a3; rw [if_pos (by omega), if_pos (by omega)]; congr 1; omega
  rw [if_neg (by omega), if_neg (show ¬ n < 4 by omega)]

  by_cases a2' : n < 11
  · rw [if_pos (by omega), if_pos a2', show 0 + (b + n - (b + 1 + 1 + 1 + 1)) = n - 4 by omega]
  rw [if_neg (by omega), if_neg a2']
  by_cases a8' : n < 19
  · rw [if_pos (by omega), if_pos a8', show 0 + (b + n - (b + 1 + 1 + 1 + 1 + 7)) = n - 11 by omega]
  rw [if_neg (by omega), if_neg a8']
  by_cases a9' : n < 27
  · rw [if_pos (by omega), if_pos a9', show 0 + (b + n - (b + 1 + 1 + 1 + 1 + 7 + 8)) = n - 19 by omega]
  rw [if_neg (by omega), if_neg a9']
  by_cases a10' : n < 35
  · rw [if_pos (by omega), if_pos a10', show 0 + (b + n - (b + 1 + 1 + 1 + 1 + 7 + 8 + 8)) = n - 27 by omega]
  rw [if_neg (by omega), if_neg a10']
  by_cases a11' : n < 43
  · rw [if_pos (by omega), if_pos a11', show 0 + (b + n - (b + 1 + 1 + 1 + 1 + 7 + 8 + 8 + 8)) = n - 35 by omega]
  rw [if_neg (by omega), if_neg a11']
  rw [if_pos (by omega), show 0 + (b + n - (b + 1 + 1 + 1 + 1 + 7 + 8 + 8 + 8 + 8)) = n - 43 by omega]
theorem pick_out (v : VV) (b j : Nat) (hj : j < b ∨ b + 51 ≤ j) : pickS 53 sgP b v j = v 53 j := by
  unfold sgP
  rw [pickS_c, pickS_c, pickS_c, pickS_c, pickS_c, pickS_c, pickS_c, pickS_c, pickS_c, pickS_c]
  rw [if_neg (by omega), if_neg (by omega), if_neg (by omega), if_neg (by omega), if_neg (by omega), if_neg (by omega), if_neg (by omega), if_neg (by omega), if_neg (by omega), if_neg (by omega)]
  rfl
/-- the view kept at place k is the view as it was -/
theorem pst_pick {v v' : VV} {k : Nat} (hs : stat v v') (h : ∀ n, n < 51 → v' 53 (51 * k + n) = pickS 53 sgP (51 * k) v (51 * k + n)) : PW v (pst v' k) := by
  intro r h1 h2 i hi
  unfold pst
  by_cases c1 : r = 1
  · subst c1
    simp only [if_true]
    have hi : i < 17 := hi
    by_cases c : 10 ≤ i ∧ i < 14
    · rw [if_pos c, h (i - 10) (by omega), pick_P v _ (by omega), if_pos (by omega)]; congr 1; omega
    · rw [if_neg c]
      by_cases c9 : i < 10
      · exact hs.1 i c9
      · exact hs.2.1 i (by omega) hi
  · rw [if_neg c1]
    by_cases c2 : r = 2
    · subst c2
      have hi : i < 7 := hi
      rw [if_pos rfl, Nat.add_assoc, h (4 + i) (by omega), pick_P v _ (by omega), if_neg (by omega), if_pos (by omega), show 4 + i - 4 = i by omega]
    rw [if_neg c2]
    by_cases c8 : r = 8
    · subst c8
      have hi : i < 8 := hi
      rw [if_pos rfl, Nat.add_assoc, h (11 + i) (by omega), pick_P v _ (by omega), if_neg (by omega), if_neg (by omega), if_pos (by omega), show 11 + i - 11 = i by omega]
    rw [if_neg c8]
    by_cases c9 : r = 9
    · subst c9
      have hi : i < 8 := hi
      rw [if_pos rfl, Nat.add_assoc, h (19 + i) (by omega), pick_P v _ (by omega), if_neg (by omega), if_neg (by omega), if_neg (by omega), if_pos (by omega), show 19 + i - 19 = i by omega]
    rw [if_neg c9]
    by_cases c10 : r = 10
    · subst c10
      have hi : i < 8 := hi
      rw [if_pos rfl, Nat.add_assoc, h (27 + i) (by omega), pick_P v _ (by omega), if_neg (by omega), if_neg (by omega), if_neg (by omega), if_neg (by omega), if_pos (by omega), show 27 + i - 27 = i by omega]
    rw [if_neg c10]
    by_cases c11 : r = 11
    · subst c11
      have hi : i < 8 := hi
      rw [if_pos rfl, Nat.add_assoc, h (35 + i) (by omega), pick_P v _ (by omega), if_neg (by omega), if_neg (by omega), if_neg (by omega), if_neg (by omega), if_neg (by omega), if_pos (by omega), show 35 + i - 35 = i by omega]
    rw [if_neg c11]
    by_cases c12 : r = 12
    · subst c12
      have hi : i < 8 := hi
      rw [if_pos rfl, Nat.add_assoc, h (43 + i) (by omega), pick_P v _ (by omega), if_neg (by omega), if_neg (by omega), if_neg (by omega), if_neg (by omega), if_neg (by omega), if_neg (by omega), show 43 + i - 43 = i by omega]
    rw [if_neg c12]
    exact hs.2.2 r (by omega) i hi
/-- an act is kept -/
theorem p_keepsAct {w : MS} {U : Nat} (hU : w.1 0 55 = nI U) (hU20 : U ≤ 20) : ∃ w', p_X12_keepsAct G w = some w' ∧ w'.1 0 55 = nI (min 20 (U + 1)) ∧ (∀ k, k ≠ 55 → k ≠ 56 → k ≠ 57 → w'.1 0 k = w.1 0 k) ∧ (∀ k, k ≠ 0 → k ≠ 53 → w'.1 k = w.1 k) ∧ w'.2 = w.2 ∧ (∀ n, n < 51 → w'.1 53 (51 * (min 20 (U + 1) - 1) + n) = pickS 53 sgP (51 * (min 20 (U + 1) - 1)) w.1 (51 * (min 20 (U + 1) - 1) + n)) ∧ ∀ j n, j < min 20 (U + 1) - 1 → n < 51 → w'.1 53 (51 * j + n) = w.1 53 (51 * (j + (U + 1 - min 20 (U + 1))) + n) := by
  have main : ∀ (W : MS) (k : Nat), k < 20 → W.1 0 55 = nI k → ∃ w', (ob (p_X12_movesAll G (W.1 0 55) (0 : Int32) W) fun w1 => nn (w_si w1 0 55 ((w1.1 0 55) + (1 : Int32))) fun w3 => some w3) = some w' ∧ w'.1 0 55 = nI (k + 1) ∧ (∀ q, q ≠ 55 → q ≠ 56 → q ≠ 57 → w'.1 0 q = W.1 0 q) ∧ (∀ q, q ≠ 0 → q ≠ 53 → w'.1 q = W.1 q) ∧ w'.2 = W.2 ∧ ∀ j, w'.1 53 j = pickS 53 sgP (51 * k) W.1 j := by
    intro W k hk hW
    obtain ⟨w1, f1, g1, g2, g3, g4, g5⟩ := p_moves_store (G := G) (w := W) hk
    have e55 : w1.1 0 55 = nI k := by rw [g2 55 (by decide), w_si_j (by decide), w_si_j (by decide)]; exact hW
    refine ⟨w_si w1 0 55 (nI (k + 1)), ?_, w_si_s _ _ _ _, fun q h1 h2 h3 => ?_, fun q h1 h2 => ?_, g4, fun j => ?_⟩
    · rw [hW, f1, u_ob, u_nn, e55, nI_1]
    · rw [w_si_j h1, g2 q h2, w_si_j h3, w_si_j h2]
    · rw [w_si_r h1, g3 q h1 h2, w_si_r h1, w_si_r h1]
    · rw [w_si_r (by decide), g5]
      refine pickS_cg (fun q hq => ?_) ?_
      · have : q.1 ≠ 0 := by revert hq; revert q; decide
        rw [w_si_r this, w_si_r this]
      · rw [w_si_r (by decide), w_si_r (by decide)]
  unfold p_X12_keepsAct
  rw [u_nn, hU]
  by_cases h20 : U = 20
  · subst h20
    rw [if_pos (by decide)]
    obtain ⟨ws, s1, s2, s3, s4⟩ := shift_at (G := G) (fun (h_40 : MS) => (nn (w_si h_40 0 55 ((h_40.1 0 55) - (1 : Int32))) fun w10 => (ob (p_X12_movesAll G (w10.1 0 55) (0 : Int32) w10) fun w1 => nn (w_si w1 0 55 ((w1.1 0 55) + (1 : Int32))) fun w3 => some w3))) 969 51 bN w rfl (by decide) (bN_gt (by decide))
    have e55 : ws.1 0 55 = nI 20 := by rw [s3 0 (by decide)]; exact hU
    obtain ⟨w', f1, f2, f3, f4, f5, f6⟩ := main (w_si ws 0 55 (nI 19)) 19 (by decide) (w_si_s _ _ _ _)
    refine ⟨w', ?_, f2, fun k h1 h2 h3 => ?_, fun k h1 h2 => ?_, f5.trans s4, fun n hn => ?_, fun j n hj hn => ?_⟩
    · refine (show _ = lw1 (P_X12_keepsAct_12 G _) bN (nI 51) w from rfl).trans (s1.trans ?_)
      rw [u_nn, e55, nI_pred]; exact f1
    · rw [f3 k h1 h2 h3, w_si_j h1, s3 0 (by decide)]
    · rw [f4 k h1 h2, w_si_r h1, s3 k h2]
    · rw [f6]
      show pickS 53 sgP (51 * 19) _ (51 * 19 + n) = pickS 53 sgP (51 * 19) _ (51 * 19 + n)
      rw [pick_P _ _ hn, pick_P _ _ hn]
      have e : ∀ r, r ≠ 0 → r ≠ 53 → (w_si ws 0 55 (nI 19)).1 r = w.1 r := fun r h1 h2 => by rw [w_si_r h1, s3 r h2]
      rw [e 1 (by decide) (by decide), e 2 (by decide) (by decide), e 8 (by decide) (by decide), e 9 (by decide) (by decide), e 10 (by decide) (by decide), e 11 (by decide) (by decide), e 12 (by decide) (by decide)]
    · have hj : j < 19 := hj
      rw [f6, pick_out _ _ _ (by omega), w_si_r (by decide), s2, if_pos (by omega), show 51 * j + n + 51 = 51 * (j + (20 + 1 - min 20 (20 + 1))) + n by omega]
  · rw [if_neg (show ¬ nI U = (20 : Int32) from fun e => h20 ((nI_eq (b := 20) (by omega) (by decide)).mp e))]
    have hm : min 20 (U + 1) = U + 1 := by omega
    obtain ⟨w', f1, f2, f3, f4, f5, f6⟩ := main w U (by omega) hU
    rw [hm]
    refine ⟨w', f1, f2, f3, f4, f5, fun n hn => ?_, fun j n hj hn => ?_⟩
    · rw [f6]; rfl
    · rw [f6, pick_out _ _ _ (by simp only [Nat.add_sub_cancel] at hj; omega)]
      congr 1
      simp
/-- an act is undone -/
theorem lod_P (v : VV) (b : Nat) (k j : Nat) : lodS 53 sgP b v k j = if k = 1 ∧ 10 ≤ j ∧ j < 14 then v 53 (b + (j - 10)) else if k = 2 ∧ j < 7 then v 53 (b + 4 + j) else if k = 8 ∧ j < 8 then v 53 (b + 11 + j) else if k = 9 ∧ j < 8 then v 53 (b + 19 + j) else if k = 10 ∧ j < 8 then v 53 (b + 27 + j) else if k = 11 ∧ j < 8 then v 53 (b + 35 + j) else if k = 12 ∧ j < 8 then v 53 (b + 43 + j) else v k j := by
  unfold sgP
  rw [lodS_c, lodS_c, lodS_c, lodS_c, lodS_c, lodS_c, lodS_c, lodS_c, lodS_c, lodS_c]
  by_cases a0 : k = 1 ∧ j = 10
  · rw [if_pos (by omega), if_pos (by omega)]
  rw [if_neg (by omega)]
  by_cases a1 : k = 1 ∧ j = 11
  · rw [if_pos (by omega), if_pos (by omega), show b + 1 + (j - 11) = b + (j - 10) by omega]
  rw [if_neg (by omega)]
  by_cases a2 : k = 1 ∧ j = 12
  · rw [if_pos (by omega), if_pos (by omega), show b + 1 + 1 + (j - 12) = b + (j - 10) by omega]
  rw [if_neg (by omega)]
  by_cases a3 : k = 1 ∧ j = 13
  · rw [if_pos (by omega), if_pos (by omega), show b + 1 + 1 + 1 + (j - 13) = b + (j - 10) by omega]
  rw [if_neg (by omega), if_neg (show ¬ (k = 1 ∧ 10 ≤ j ∧ j < 14) by omega)]
  by_cases a2' : k = 2 ∧ j < 7
  · rw [if_pos (by omega), if_pos a2']; congr 1
  rw [if_neg (by omega), if_neg a2']
  by_cases a8' : k = 8 ∧ j < 8
  · rw [if_pos (by omega), if_pos a8']; congr 1
  rw [if_neg (by omega), if_neg a8']
  by_cases a9' : k = 9 ∧ j < 8
  · rw [if_pos (by omega), if_pos a9']; congr 1
  rw [if_neg (by omega), if_neg a9']
  by_cases a10' : k = 10 ∧ j < 8
  · rw [if_pos (by omega), if_pos a10']; congr 1
  rw [if_neg (by omega), if_neg a10']
  by_cases a11' : k = 11 ∧ j < 8
  · rw [if_pos (by omega), if_pos a11']; congr 1
  rw [if_neg (by omega), if_neg a11']
  by_cases a12' : k = 12 ∧ j < 8
  · rw [if_pos (by omega), if_pos a12']; congr 1
  rw [if_neg (by omega), if_neg a12']
  rfl
end
