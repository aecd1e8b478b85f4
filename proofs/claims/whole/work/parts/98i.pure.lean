/-! PURE 98i: courses, the reference's. -/
section
variable {G : GG} {own : Nat → Nat} {R X c t U : Nat} {h h1 h2 h' : AH} {w w' w1 w2 w3 : MS} {v v' : VV}
def R79 (r : Nat) : Prop := r = 79 ∨ r = 80
theorem R79.st (hS : St w.1) (hF : Fw R79 w w') : St w'.1 := hS.cg (fun r q1 q2 _ => hF r (by unfold R79; omega))
theorem R79.e (hF : Fw R79 w w') {r : Nat} (hr : r < 79) : w'.1 r = w.1 r := hF r (by unfold R79; omega)
theorem R79.cold (hF : Fw R79 w w') (m : Int32) : coldV w'.1 m = coldV w.1 m := coldV_cg (fun r hr => R79.e hF (by omega))
theorem cours_loop (hS : St w.1) (a : Int32) {q : Nat} (hq : q < 24) : ∀ (d k n : Nat) (w' : MS), k + d = 61 → d < n → Fw R79 w w' → (∀ m, m < k → w'.1 79 (61 * q + m) = crs w.1 q m) → ∃ w2, Fw R79 w w2 ∧ w2.2 = w'.2 ∧ (∀ m, m ≤ 60 → w2.1 79 (61 * q + m) = crs w.1 q m) ∧ (∀ j, j < 61 * q → w2.1 79 j = w'.1 79 j) ∧ w2.1 80 = w'.1 80 ∧ ∀ K, lw2 (P_X12_laysCourses_20 G a (nI q) K) n (crs w.1 q k) (nI k) w' = K w2
  | 0, k, n + 1, w', e, _, hF, hp => by
    refine ⟨w', hF, rfl, fun m hm => hp m (by omega), fun j _ => rfl, rfl, fun K => ?_⟩
    show P_X12_laysCourses_20 G a (nI q) K _ _ _ _ = _
    rw [P_X12_laysCourses_20, if_pos (show (60 : Int32) < nI k from nI_lt (a := 60) (by omega) (by omega))]
  | d + 1, k, n + 1, w', e, hn, hF, hp => by
    have hF1 : Fw R79 w (w_si w' 79 (61 * q + k) (crs w.1 q k)) := hF.tr (Fw.si (Or.inl rfl))
    obtain ⟨w2, a1, a2, a3, a4, a5, a6⟩ := cours_loop hS a hq d (k + 1) n (w_si w' 79 (61 * q + k) (crs w.1 q k)) (by omega) (by omega) hF1 (fun m hm => by
      by_cases z : m = k
      · subst z; rw [w_si_s]
      · rw [w_si_j (by omega)]; exact hp m (by omega))
    refine ⟨w2, a1, a2, a3, fun j hj => by rw [a4 j hj, w_si_j (by omega)], by rw [a5, w_si_r (by decide)], fun K => ?_⟩
    have e13 := R79.e hF1 (r := 1) (by decide)
    have key : ∀ (self : Int32 → Int32 → MS → Option (Int32 × MS)) (s : Int32), (cw (p_X12_coldOf G (nI k) (w_si w' 79 (61 * q + k) (crs w.1 q k))) fun r10 w8 => cw (p_X12_warmer G (crs w.1 q k) s (nI q / (4 : Int32)) r10 w8) fun r13 w11 => nn (nI k + (1 : Int32)) fun x14 => self r13 x14 w11) = (self (warmI (crs w.1 q k) s (nI q / 4) (coldV w.1 (nI k))) (nI (k + 1)) (w_si w' 79 (61 * q + k) (crs w.1 q k)) : Option (Int32 × MS)) := fun self s => by
      rw [p_coldOf (R79.st hS hF1), R79.cold hF1, u_cw, p_warmer, u_cw, u_nn, nI_1]
    show P_X12_laysCourses_20 G a (nI q) K _ _ _ _ = _
    rw [P_X12_laysCourses_20, if_neg (show ¬ (60 : Int32) < nI k from nI_nlt (b := k) (a := 60) (by omega) (by omega)), i61', u_ck (u_ixn (by omega) (by decide)), u_nn, nI_clamp (show 61 * q + k < 2 ^ 31 by omega), u_ck ix_17_3, u_nn, tn_3, tn_2, e13]
    by_cases z : w.1 1 3 ≤ nI k
    · rw [if_pos z]
      refine (key _ _).trans ?_
      have ec : crs w.1 q (k + 1) = warmI (crs w.1 q k) (nI q - nI q / 4 * 4) (nI q / 4) (coldV w.1 (nI k)) := by
        show warmI _ (if w.1 1 3 ≤ nI k then _ else _) _ _ = _
        rw [if_pos z]
      rw [← ec]; exact a6 K
    · rw [if_neg z, u_ck ix_17_2]
      refine (key _ _).trans ?_
      have ec : crs w.1 q (k + 1) = warmI (crs w.1 q k) (w.1 1 2) (nI q / 4) (coldV w.1 (nI k)) := by
        show warmI _ (if w.1 1 3 ≤ nI k then _ else _) _ _ = _
        rw [if_neg z]
      rw [← ec]; exact a6 K
theorem fit_loop {g q : Nat} (a : Int32) (hq : q < 24) (hg : g ≤ 10) (h14 : w.1 1 14 = nI g) (hl : ∀ k, k < g → bd (w.1 18 k) 0 60) : ∀ (d k n : Nat) (w' : MS), k + d = g → d < n → Fw R79 w w' → (∀ m, m ≤ 60 → w'.1 79 (61 * q + m) = crs w.1 q m) → w'.1 80 q = (if fitB w.1 q k then 1 else 0) → ∃ w2, Fw R79 w w2 ∧ w2.2 = w'.2 ∧ w2.1 79 = w'.1 79 ∧ (∀ j, j ≠ q → w2.1 80 j = w'.1 80 j) ∧ w2.1 80 q = (if fitB w.1 q g then 1 else 0) ∧ ∀ K, lw1 (P_X12_laysCourses_93 G a (nI q) K) n (nI k) w' = K w2
  | 0, k, n + 1, w', e, _, hF, hp, hf => by
    have : k = g := by omega
    subst this
    refine ⟨w', hF, rfl, rfl, fun _ _ => rfl, hf, fun K => ?_⟩
    show P_X12_laysCourses_93 G a (nI q) K _ _ _ = _
    rw [P_X12_laysCourses_93, u_ck ix_17_14, tn_14, R79.e hF (by decide), h14, if_pos (nI_le (Nat.le_refl _) (by omega))]
  | d + 1, k, n + 1, w', e, hn, hF, hp, hf => by
    obtain ⟨m, hm, em⟩ := bd_nI (b := 60) (hl k (by omega))
    have ec : (w.1 18 k).toNatClampNeg = m := by rw [em]; exact nI_clamp (by omega)
    have xq : ixn 24 (nI q) = true := u_ixn hq (by decide)
    have xk : ixn 10 (nI k) = true := u_ixn (by omega) (by decide)
    have cq : (nI q).toNatClampNeg = q := nI_clamp (by omega)
    have ck' : (nI k).toNatClampNeg = k := nI_clamp (by omega)
    have hyes : ∀ b : Bool, fitB w.1 q (k + 1) = b → ∃ w2, Fw R79 w w2 ∧ w2.2 = w'.2 ∧ w2.1 79 = w'.1 79 ∧ (∀ j, j ≠ q → w2.1 80 j = w'.1 80 j) ∧ w2.1 80 q = (if fitB w.1 q g then 1 else 0) ∧ ∀ K, lw1 (P_X12_laysCourses_93 G a (nI q) K) n (nI (k + 1)) (w_si w' 80 q ((if b then (1 : Int32) else 0) &&& 1)) = K w2 := fun b hb => by
      obtain ⟨w2, a1, a2, a3, a4, a5, a6⟩ := fit_loop a hq hg h14 hl d (k + 1) n (w_si w' 80 q ((if b then (1 : Int32) else 0) &&& 1)) (by omega) (by omega) (hF.tr (Fw.si (Or.inr rfl))) (fun m hm => by rw [w_si_r (by decide)]; exact hp m hm) (by rw [w_si_s, hb]; cases b <;> rfl)
      exact ⟨w2, a1, a2, by rw [a3, w_si_r (by decide)], fun j hj => by rw [a4 j hj, w_si_j hj], a5, a6⟩
    by_cases z0 : fitB w.1 q k = true
    · rw [if_pos z0] at hf
      by_cases z : crs w.1 q m = w.1 19 k
      · obtain ⟨w2, a1, a2, a3, a4, a5, a6⟩ := hyes true (fitB_s z0 (by rw [ec]; exact z))
        refine ⟨w2, a1, a2, a3, a4, a5, fun K => ?_⟩
        show P_X12_laysCourses_93 G a (nI q) K _ _ _ = _
        rw [P_X12_laysCourses_93, u_ck ix_17_14, tn_14, R79.e hF (r := 1) (by decide), h14, if_neg (nI_ge (show k < g by omega) (by omega)), u_ck xq, u_nn, u_nn, cq, hf, if_neg n10, u_ck xk, ck', R79.e hF (r := 18) (by decide), em, i61', u_ck (u_ixn (by omega) (by decide)), u_ck xk, nI_clamp (show 61 * q + m < 2 ^ 31 by omega), hp m hm, R79.e hF (r := 19) (by decide), if_pos z]; dsimp only; rw [u_ck xq, u_nn, u_nn, nI_1]
        exact a6 K
      · obtain ⟨w2, a1, a2, a3, a4, a5, a6⟩ := hyes false (fitB_no (Nat.lt_succ_self k) (by rw [ec]; exact z))
        refine ⟨w2, a1, a2, a3, a4, a5, fun K => ?_⟩
        show P_X12_laysCourses_93 G a (nI q) K _ _ _ = _
        rw [P_X12_laysCourses_93, u_ck ix_17_14, tn_14, R79.e hF (r := 1) (by decide), h14, if_neg (nI_ge (show k < g by omega) (by omega)), u_ck xq, u_nn, u_nn, cq, hf, if_neg n10, u_ck xk, ck', R79.e hF (r := 18) (by decide), em, i61', u_ck (u_ixn (by omega) (by decide)), u_ck xk, nI_clamp (show 61 * q + m < 2 ^ 31 by omega), hp m hm, R79.e hF (r := 19) (by decide), if_neg z]; dsimp only; rw [u_ck xq, u_nn, u_nn, nI_1]
        exact a6 K
    · rw [if_neg z0] at hf
      have z1 : fitB w.1 q (k + 1) = false := by
        by_cases y : fitB w.1 q (k + 1) = true
        · exact absurd (decide_eq_true (fun j hj => of_decide_eq_true y j (by omega))) z0
        · simpa using y
      obtain ⟨w2, a1, a2, a3, a4, a5, a6⟩ := hyes false z1
      refine ⟨w2, a1, a2, a3, a4, a5, fun K => ?_⟩
      show P_X12_laysCourses_93 G a (nI q) K _ _ _ = _
      rw [P_X12_laysCourses_93, u_ck ix_17_14, tn_14, R79.e hF (r := 1) (by decide), h14, if_neg (nI_ge (show k < g by omega) (by omega)), u_ck xq, u_nn, u_nn, cq, hf, if_pos rfl]; dsimp only; rw [u_ck xq, u_nn, u_nn, nI_1]
      exact a6 K
/-- what the reference's rows hold after k pairs -/
def CoI (w : MS) (k : Nat) (w' : MS) : Prop := Fw R79 w w' ∧ w'.2 = w.2 ∧ (∀ q, q < k → ∀ m, m ≤ 60 → w'.1 79 (61 * q + m) = crs w.1 q m) ∧ ∀ q, q < k → w'.1 80 q = if fitV w.1 q then 1 else 0
theorem lays_loop {g : Nat} (hS : St w.1) (hg : g ≤ 10) (h14 : w.1 1 14 = nI g) (hl : ∀ k, k < g → bd (w.1 18 k) 0 60) : ∀ (d k n : Nat) (w' : MS), k + d = 24 → d < n → CoI w k w' → ∃ w2, CoI w 24 w2 ∧ lw2 (P_X12_laysCourses_4 G) n (nI (rowC (fitV w.1) k)) (nI k) w' = some (nI (rowC (fitV w.1) 24), w2)
  | 0, k, n + 1, w', e, _, hI => by
    have : k = 24 := by omega
    subst this
    refine ⟨w', hI, ?_⟩
    show P_X12_laysCourses_4 G _ _ _ _ = _
    rw [P_X12_laysCourses_4, if_pos (show (24 : Int32) ≤ nI 24 from nI_le (a := 24) (by omega) (by omega))]
  | d + 1, k, n + 1, w', e, hn, ⟨hF, h2, hp, hf⟩ => by
    have eg : lgN w.1 = g := by unfold lgN; rw [h14]; exact nI_clamp (by omega)
    have xq : ixn 24 (nI k) = true := u_ixn (by omega) (by decide)
    have cq : (nI k).toNatClampNeg = k := nI_clamp (by omega)
    obtain ⟨w1, a1, a2, a3, a4, a5, a6⟩ := cours_loop (G := G) hS (nI (rowC (fitV w.1) k)) (q := k) (by omega) 61 0 bN w' rfl (bN_gt (by decide)) hF (fun m hm => by omega)
    obtain ⟨w2, b1, b2, b3, b4, b5, b6⟩ := fit_loop (G := G) (nI (rowC (fitV w.1) k)) (q := k) (by omega) hg h14 hl g 0 bN (w_si w1 80 k ((1 : Int32) &&& 1)) (Nat.zero_add _) (bN_gt (by omega)) (a1.tr (Fw.si (Or.inr rfl))) (fun m hm => by rw [w_si_r (by decide)]; exact a3 m hm) (by rw [w_si_s, fitB_0]; rfl)
    have b5' : w2.1 80 k = if fitV w.1 k then 1 else 0 := by rw [b5]; unfold fitV; rw [eg]
    obtain ⟨w3, c1, c2⟩ := lays_loop hS hg h14 hl d (k + 1) n w2 (by omega) (by omega) ⟨b1, by rw [b2]; exact a2.trans h2, fun q hq m hm => by
        rw [b3, w_si_r (by decide)]
        by_cases z : q = k
        · subst z; exact a3 m hm
        · rw [a4 _ (by omega)]; exact hp q (by omega) m hm, fun q hq => by
        by_cases z : q = k
        · subst z; exact b5'
        · rw [b4 q z, w_si_j z, a5]; exact hf q (by omega)⟩
    refine ⟨w3, c1, ?_⟩
    show P_X12_laysCourses_4 G _ _ _ _ = _
    rw [P_X12_laysCourses_4, if_neg (show ¬ (24 : Int32) ≤ nI k from nI_ge (b := 24) (by omega) (by omega)), u_ck ix_17_1, u_nn, tn_1, R79.e hF (r := 1) (by decide)]
    refine (a6 _).trans ?_
    rw [u_ck xq, u_nn, cq]
    refine (b6 _).trans ?_
    rw [u_ck xq, u_nn, b5']
    have es : ∀ x : Nat, nI (rowC (fitV w.1) k) + nI x = nI (rowC (fitV w.1) k + x) := fun x => nI_add _ _
    by_cases z : fitV w.1 k = true
    · have ec : nI (rowC (fitV w.1) k) + 1 = nI (rowC (fitV w.1) (k + 1)) := by rw [rowC_s, if_pos z]; exact es 1
      rw [if_pos z, if_neg n10]; dsimp only; rw [u_nn, u_nn, ec, nI_1]; exact c2
    · have ec : nI (rowC (fitV w.1) k) + 0 = nI (rowC (fitV w.1) (k + 1)) := by rw [rowC_s, if_neg z]; exact es 0
      rw [if_neg z, if_pos rfl]; dsimp only; rw [u_nn, u_nn, ec, nI_1]; exact c2
theorem p_laysCourses (hS : St w.1) (hL : ∃ g, g ≤ 10 ∧ w.1 1 14 = nI g ∧ ∀ k, k < g → bd (w.1 18 k) 0 60) : ∃ w2, CoI w 24 w2 ∧ p_X12_laysCourses G w = some (nI (rowC (fitV w.1) 24), w2) := by
  obtain ⟨g, g1, g2, g3⟩ := hL
  obtain ⟨w2, a1, a2⟩ := lays_loop (G := G) hS g1 g2 g3 24 0 bN w rfl (bN_gt (by decide)) ⟨Fw.rf, rfl, fun q hq => by omega, fun q hq => by omega⟩
  exact ⟨w2, a1, a2⟩
/-- how many fitting pairs of the first k have this warmth -/
def cntA (v : VV) (m x k : Nat) : Nat := rowC (fun q => fitV v q && decide (crs v q m = nI x)) k
def IsMx (f : Nat → Nat) (N M : Nat) : Prop := (∀ x, x < N → f x ≤ M) ∧ (M = 0 ∨ ∃ x, x < N ∧ f x = M)
theorem IsMx.un {f : Nat → Nat} {N M M' : Nat} (a : IsMx f N M) (b : IsMx f N M') : M = M' := by
  have h1 : M ≤ M' := by
    rcases a.2 with z | ⟨x, hx, e⟩
    · omega
    · rw [← e]; exact b.1 x hx
  have h2 : M' ≤ M := by
    rcases b.2 with z | ⟨x, hx, e⟩
    · omega
    · rw [← e]; exact a.1 x hx
  omega
theorem same_loop {m x : Nat} (hI : CoI w 24 w') (hm : m ≤ 60) (a b : Int32) (K : Int32 → MS → Option (Int32 × MS)) : ∀ (d k n : Nat), k + d = 24 → d < n → lw2 (P_X12_mostAlike_16 G (nI m) a (nI x) K) n (nI (cntA w.1 m x k)) (nI k) w' = K (nI (cntA w.1 m x 24)) w'
  | 0, k, n + 1, e, _ => by
    have : k = 24 := by omega
    subst this
    show P_X12_mostAlike_16 G (nI m) a (nI x) K _ _ _ _ = _
    rw [P_X12_mostAlike_16, if_pos (show (24 : Int32) ≤ nI 24 from nI_le (a := 24) (by omega) (by omega))]
  | d + 1, k, n + 1, e, hn => by
    have xq : ixn 24 (nI k) = true := u_ixn (by omega) (by decide)
    have cq : (nI k).toNatClampNeg = k := nI_clamp (by omega)
    have ih := same_loop (x := x) hI hm a b K d (k + 1) n (by omega) (by omega)
    show P_X12_mostAlike_16 G (nI m) a (nI x) K _ _ _ _ = _
    rw [P_X12_mostAlike_16, if_neg (show ¬ (24 : Int32) ≤ nI k from nI_ge (b := 24) (by omega) (by omega)), u_ck xq, u_nn, u_nn, cq, hI.2.2.2 k (by omega)]
    have es : ∀ y : Nat, nI (cntA w.1 m x k) + nI y = nI (cntA w.1 m x k + y) := fun y => nI_add _ _
    have cs : cntA w.1 m x (k + 1) = cntA w.1 m x k + if (fitV w.1 k && decide (crs w.1 k m = nI x)) then 1 else 0 := rowC_s _ _
    by_cases z : fitV w.1 k = true
    · rw [if_pos z, if_neg n10, i61', u_ck (u_ixn (by omega) (by decide)), nI_clamp (show 61 * k + m < 2 ^ 31 by omega), hI.2.2.1 k (by omega) m hm]
      by_cases y : crs w.1 k m = nI x
      · have ec : nI (cntA w.1 m x k) + 1 = nI (cntA w.1 m x (k + 1)) := by rw [cs, z, decide_eq_true y]; exact es 1
        rw [if_pos y]; dsimp only; rw [u_nn, u_nn, ec, nI_1]; exact ih
      · have ec : nI (cntA w.1 m x k) + 0 = nI (cntA w.1 m x (k + 1)) := by rw [cs, z, decide_eq_false y]; exact es 0
        rw [if_neg y]; dsimp only; rw [u_nn, u_nn, ec, nI_1]; exact ih
    · have z' : fitV w.1 k = false := by simpa using z
      have ec : nI (cntA w.1 m x k) + 0 = nI (cntA w.1 m x (k + 1)) := by rw [cs, z']; exact es 0
      rw [if_neg z, if_pos rfl]; dsimp only; rw [u_nn, u_nn, ec, nI_1]; exact ih
theorem cntA_24 (v : VV) (m x : Nat) : cntA v m x 24 ≤ 24 := rowC_le _ _
theorem most_loop {m : Nat} (hI : CoI w 24 w') (hm : m ≤ 60) : ∀ (d k n M : Nat), k + d = 61 → d < n → M ≤ 24 → IsMx (fun x => cntA w.1 m x 24) k M → ∃ M', M' ≤ 24 ∧ IsMx (fun x => cntA w.1 m x 24) 61 M' ∧ lw2 (P_X12_mostAlike_4 G (nI m)) n (nI M) (nI k) w' = some (nI M', w')
  | 0, k, n + 1, M, e, _, hM, hx => by
    have : k = 61 := by omega
    subst this
    refine ⟨M, hM, hx, ?_⟩
    show P_X12_mostAlike_4 G (nI m) _ _ _ _ = _
    rw [P_X12_mostAlike_4, if_pos (show (60 : Int32) < nI 61 from nI_lt (a := 60) (by omega) (by omega))]
  | d + 1, k, n + 1, M, e, hn, hM, hx => by
    have hc := cntA_24 w.1 m k
    have ss := fun K => same_loop (G := G) (x := k) hI hm (nI M) 0 K 24 0 bN rfl (bN_gt (by decide))
    by_cases z : cntA w.1 m k 24 ≤ M
    · obtain ⟨M', b1, b2, b3⟩ := most_loop hI hm d (k + 1) n M (by omega) (by omega) hM ⟨fun x hx' => by
        by_cases y : x = k
        · subst y; exact z
        · exact hx.1 x (by omega), hx.2.imp id (fun ⟨x, q1, q2⟩ => ⟨x, by omega, q2⟩)⟩
      refine ⟨M', b1, b2, ?_⟩
      show P_X12_mostAlike_4 G (nI m) _ _ _ _ = _
      rw [P_X12_mostAlike_4, if_neg (show ¬ (60 : Int32) < nI k from nI_nlt (b := k) (a := 60) (by omega) (by omega))]
      refine (ss _).trans ?_
      rw [u_nn, if_pos (nI_le z (by omega))]; dsimp only; rw [u_nn, nI_1]; exact b3
    · obtain ⟨M', b1, b2, b3⟩ := most_loop hI hm d (k + 1) n (cntA w.1 m k 24) (by omega) (by omega) hc ⟨fun x hx' => by
        by_cases y : x = k
        · subst y; exact Nat.le_refl _
        · exact Nat.le_trans (hx.1 x (by omega)) (by omega), Or.inr ⟨k, by omega, rfl⟩⟩
      refine ⟨M', b1, b2, ?_⟩
      show P_X12_mostAlike_4 G (nI m) _ _ _ _ = _
      rw [P_X12_mostAlike_4, if_neg (show ¬ (60 : Int32) < nI k from nI_nlt (b := k) (a := 60) (by omega) (by omega))]
      refine (ss _).trans ?_
      rw [u_nn, if_neg (nI_ge (by omega) (by omega))]; dsimp only; rw [u_nn, nI_1]; exact b3
theorem p_mostAlike {m : Nat} (hI : CoI w 24 w') (hm : m ≤ 60) : ∃ M, M ≤ 24 ∧ IsMx (fun x => cntA w.1 m x 24) 61 M ∧ p_X12_mostAlike G (nI m) w' = some (nI M, w') := by
  obtain ⟨M, a1, a2, a3⟩ := most_loop (G := G) hI hm 61 0 bN 0 rfl (bN_gt (by decide)) (by decide) ⟨fun x hx => by omega, Or.inl rfl⟩
  exact ⟨M, a1, a2, a3⟩
end
