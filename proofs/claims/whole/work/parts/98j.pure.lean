/-! PURE 98j: ruled, look. -/
section
variable {G : GG} {own : Nat → Nat} {R X c t U : Nat} {h h1 h2 h' : AH} {w w' w1 w2 w3 : MS} {v v' : VV}
/-- the climate's cells, filled; the row of counts may change -/
def ClF (X : Nat) (h : AH) (v : VV) (h' : AH) : Prop := Fr (SCl X) h h' ∧ (∀ q, q < 24 → ∀ m, m ≤ 60 → m_i h' (X + 56) (61 * q + m) = crs v q m) ∧ m_i h' (X + 54) 3 = nI (rowN (fitV v) 24)
theorem ClF.bit (hI : ClF X h v h') {q : Nat} (hq : q < 24) : ((m_i h' (X + 54) 3) >>> (nI q &&& 31)) &&& (1 : Int32) = if fitV v q then 1 else 0 := by
  rw [hI.2.2, bit24 (rowN_lt _ 24) hq, rowN_bit _ _ _ hq]
theorem alike_loop (hG : GC h X) (hS : St v) {m : Nat} (hm : m ≤ 60) : ∀ (d k n M : Nat) (h' : AH), k + d = 24 → d < n → M ≤ k → ClF X h v h' → (∀ x, x < 61 → m_i h' (X + 57) x = nI (cntA v m x k)) → IsMx (fun x => cntA v m x k) 61 M → ∃ M' h2, M' ≤ 24 ∧ ClF X h v h2 ∧ IsMx (fun x => cntA v m x 24) 61 M' ∧ lq2 (F_X1_alikeAt_12 G (X + 54) (nI m)) n (nI M) (nI k) h' = some (nI M', h2)
  | 0, k, n + 1, M, h', e, _, hM, hI, hc, hx => by
    have : k = 24 := by omega
    subst this
    refine ⟨M, h', hM, hI, hx, ?_⟩
    show F_X1_alikeAt_12 G (X + 54) (nI m) _ _ _ _ = _
    rw [F_X1_alikeAt_12, if_pos (show (24 : Int32) ≤ nI 24 from nI_le (a := 24) (by omega) (by omega))]
  | d + 1, k, n + 1, M, h', e, hn, hM, hI, hc, hx => by
    have t1 : m_t h' (X + 54) = .inl 1 := by rw [hI.1.1]; exact hG.1
    have cs : ∀ x, cntA v m x (k + 1) = cntA v m x k + if (fitV v k && decide (crs v k m = nI x)) then 1 else 0 := fun x => rowC_s _ _
    by_cases z : fitV v k = true
    · obtain ⟨y, hy, ey⟩ := crs_n hS k m
      have c1 : cntA v m y (k + 1) = cntA v m y k + 1 := by rw [cs, z, decide_eq_true ey]; rfl
      have c2 : ∀ x, x < 61 → x ≠ y → cntA v m x (k + 1) = cntA v m x k := fun x h1 h2 => by
        rw [cs, z, decide_eq_false (fun q => h2 (by rw [ey] at q; exact ((nI_eq (by omega) (by omega)).mp q).symm))]; rfl
      have hyk : cntA v m y k ≤ k := rowC_le _ _
      have x57 : ∀ h0 : AH, m_t h0 = m_t h → ixb h0 (X + 57) .int (nI y) = true := fun h0 e0 => ixb_e (n := 61) (by rw [e0]; exact hG.2.2.2.2.2.2) (by omega) (by decide)
      have hI' : ClF X h v (m_si h' (X + 57) y (nI (cntA v m y (k + 1)))) := ⟨hI.1.tr (Fr.si (by unfold SCl; omega)), fun q hq m hm => by rw [m_i_sb (by omega)]; exact hI.2.1 q hq m hm, by rw [m_i_sb (by omega)]; exact hI.2.2⟩
      have hc' : ∀ x, x < 61 → m_i (m_si h' (X + 57) y (nI (cntA v m y (k + 1)))) (X + 57) x = nI (cntA v m x (k + 1)) := fun x hx => by
        by_cases e : x = y
        · subst e; rw [m_i_ss]
        · rw [m_i_sj e, hc x hx, c2 x hx e]
      have step : ∀ M1, M1 ≤ k + 1 → IsMx (fun x => cntA v m x (k + 1)) 61 M1 → (if nI M < nI (cntA v m y (k + 1)) then nI (cntA v m y (k + 1)) else nI M) = nI M1 → ∃ M' h2, M' ≤ 24 ∧ ClF X h v h2 ∧ IsMx (fun x => cntA v m x 24) 61 M' ∧ lq2 (F_X1_alikeAt_12 G (X + 54) (nI m)) (n + 1) (nI M) (nI k) h' = some (nI M', h2) := fun M1 q1 q2 q3 => by
        obtain ⟨M', h2, b1, b2, b3, b4⟩ := alike_loop hG hS hm d (k + 1) n M1 _ (by omega) (by omega) q1 hI' hc' q2
        refine ⟨M', h2, b1, b2, b3, ?_⟩
        show F_X1_alikeAt_12 G (X + 54) (nI m) _ _ _ _ = _
        have r1 : m_r h' (X + 54) 1 = some (X + 56) := by rw [hI.1.2.1]; exact hG.2.2.1
        have r2 : m_r h' (X + 54) 2 = some (X + 57) := by rw [hI.1.2.1]; exact hG.2.2.2.1
        have ea : nI (cntA v m y k) + 1 = nI (cntA v m y (k + 1)) := by rw [c1]; exact nI_1 _
        rw [F_X1_alikeAt_12, if_neg (show ¬ (24 : Int32) ≤ nI k from nI_ge (b := 24) (by omega) (by omega)), u_ck t1, u_nn, hI.bit (by omega), if_pos z, if_neg n10, r1, u_ob, i61, u_ck (ixb_e (n := 1464) (by rw [hI.1.1]; exact hG.2.2.2.2.2.1) (by omega) (by decide)), u_nn, nI_clamp (show 61 * k + m < 2 ^ 31 by omega), hI.2.1 k (by omega) m hm, ey, r2, u_ob, u_ck (x57 h' hI.1.1), u_ck (x57 h' hI.1.1), u_nn, nI_clamp (show y < 2 ^ 31 by omega), hc y (by omega), ea, m_r_si, r2, u_ob, u_ck (x57 _ (by rw [m_t_si]; exact hI.1.1)), u_nn, m_i_ss, u_nn, q3]; dsimp only; rw [u_nn, nI_1]
        exact b4
      by_cases g : M < cntA v m y (k + 1)
      · refine step (cntA v m y (k + 1)) (by omega) ⟨fun x hx' => ?_, Or.inr ⟨y, by omega, rfl⟩⟩ (by rw [if_pos (nI_lt g (by omega))])
        by_cases e : x = y
        · subst e; exact Nat.le_refl _
        · show cntA v m x (k + 1) ≤ _
          rw [c2 x hx' e]; exact Nat.le_trans (hx.1 x hx') (by omega)
      · refine step M (by omega) ⟨fun x hx' => ?_, ?_⟩ (by rw [if_neg (nI_nlt (by omega) (by omega))])
        · by_cases e : x = y
          · subst e; show cntA v m x (k + 1) ≤ M; omega
          · show cntA v m x (k + 1) ≤ _
            rw [c2 x hx' e]; exact hx.1 x hx'
        · rcases hx.2 with q | ⟨x, q1, q2⟩
          · exact Or.inl q
          · by_cases e : x = y
            · subst e
              have q2' : cntA v m x k = M := q2
              omega
            · exact Or.inr ⟨x, q1, by show cntA v m x (k + 1) = M; rw [c2 x q1 e]; exact q2⟩
    · have z' : fitV v k = false := by simpa using z
      have ce : ∀ x, cntA v m x (k + 1) = cntA v m x k := fun x => by rw [cs, z']; rfl
      obtain ⟨M', h2, b1, b2, b3, b4⟩ := alike_loop hG hS hm d (k + 1) n M h' (by omega) (by omega) (by omega) hI (fun x hx => by rw [ce]; exact hc x hx) (by
        have : (fun x => cntA v m x (k + 1)) = (fun x => cntA v m x k) := funext ce
        rw [this]; exact hx)
      refine ⟨M', h2, b1, b2, b3, ?_⟩
      show F_X1_alikeAt_12 G (X + 54) (nI m) _ _ _ _ = _
      rw [F_X1_alikeAt_12, if_neg (show ¬ (24 : Int32) ≤ nI k from nI_ge (b := 24) (by omega) (by omega)), u_ck t1, u_nn, hI.bit (by omega), if_neg z, if_pos rfl]; dsimp only; rw [u_nn, nI_1]
      exact b4
theorem c_alikeAt (hG : GC h X) (hS : St v) {m : Nat} (hm : m ≤ 60) (hI : ClF X h v h') : ∃ M h2, M ≤ 24 ∧ ClF X h v h2 ∧ IsMx (fun x => cntA v m x 24) 61 M ∧ f_X1_alikeAt G (X + 54) (nI m) h' = some (nI M, h2) := by
  obtain ⟨h1, a1, a2, a3⟩ := c_fill G (a := X + 57) (N := 61) (x := 0) (h := h') (by decide) (by rw [hI.1.1]; exact hG.2.2.2.2.2.2)
  obtain ⟨M, h2, b1, b2, b3, b4⟩ := alike_loop (G := G) hG hS hm 24 0 bN 0 h1 rfl (bN_gt (by decide)) (by decide) ⟨hI.1.tr (a2.wk (fun a ha => by unfold SCl; omega)), fun q hq m hm => by rw [(a2.2.2.2 (X + 56) (by omega)).1]; exact hI.2.1 q hq m hm, by rw [(a2.2.2.2 (X + 54) (by omega)).1]; exact hI.2.2⟩ (fun x hx => by rw [a3, if_pos hx]; rfl) ⟨fun x hx => Nat.le_refl _, Or.inl rfl⟩
  refine ⟨M, h2, b1, b2, b3, ?_⟩
  unfold f_X1_alikeAt
  rw [u_ck (by rw [hI.1.1]; exact hG.1), hI.1.2.1, hG.2.2.2.1, u_ob, a1, u_ob]
  exact b4
theorem c_firstFitting (hG : GC h X) (hI : ClF X h v h') : f_X1_firstFitting G (X + 54) h' = some ((match ff (fitV v) 24 0 with | some q => nI q | none => -1), h') := by
  unfold f_X1_firstFitting
  have t1 : m_t h' (X + 54) = .inl 1 := by rw [hI.1.1]; exact hG.1
  refine (lq1_ff (N := 24) (fitV v) (fun q => some (nI q, h')) (some (-1, h')) ?_ ?_ ?_ (d := 24) (k := 0) rfl (bN_gt (by decide))).trans ?_
  · intro self
    rw [F_X1_firstFitting_2, if_pos (show (24 : Int32) ≤ nI 24 from nI_le (a := 24) (by omega) (by omega))]
  · intro self k hk hp
    rw [F_X1_firstFitting_2, if_neg (show ¬ (24 : Int32) ≤ nI k from nI_ge (b := 24) (by omega) (by omega)), u_ck t1, hI.bit hk, if_pos hp, if_neg n10]
  · intro self k hk hp
    rw [F_X1_firstFitting_2, if_neg (show ¬ (24 : Int32) ≤ nI k from nI_ge (b := 24) (by omega) (by omega)), u_ck t1, hI.bit hk, hp, if_pos (by decide), u_nn]
  · cases ff (fitV v) 24 0 <;> rfl
/-- the reference looks from the last to the first -/
theorem first_loop (hI : CoI w 24 w') (a b : Int32) (K : Int32 → MS → Option (Int32 × MS)) : ∀ (k n : Nat) (x : Int32), k ≤ 24 → k < n → lw2 (P_X12_ruled_33 G a b K) n x (nI k - 1) w' = K (match ff (fitV w.1) k 0 with | some q => nI q | none => x) w'
  | 0, n + 1, x, _, _ => by
    show P_X12_ruled_33 G a b K _ _ _ _ = _
    rw [P_X12_ruled_33, if_pos (by decide)]; rfl
  | k + 1, n + 1, x, hk, hn => by
    have e1 : nI (k + 1) - 1 = nI k := nI_pred k
    have e2 : nI k + -1 = nI k - 1 := by
      rw [Int32.sub_eq_add_neg]
    have xq : ixn 24 (nI k) = true := u_ixn (by omega) (by decide)
    have cq : (nI k).toNatClampNeg = k := nI_clamp (by omega)
    have ih := fun y => first_loop hI a b K k n y (by omega) (by omega)
    have fa : ff (fitV w.1) (k + 1) 0 = match ff (fitV w.1) k 0 with | some j => some j | none => ff (fitV w.1) 1 (0 + k) := ff_app
    have f1 : ff (fitV w.1) 1 (0 + k) = if fitV w.1 k then some k else none := by
      rw [Nat.zero_add]; rfl
    show P_X12_ruled_33 G a b K _ _ _ _ = _
    rw [P_X12_ruled_33, e1, if_neg (nI_pos (by omega)), u_ck xq, u_nn, cq, hI.2.2.2 k (by omega), fa, f1]
    by_cases z : fitV w.1 k = true
    · rw [if_pos z, if_pos z, if_neg n10]; dsimp only; rw [u_nn, e2, ih]
      cases ff (fitV w.1) k 0 <;> rfl
    · rw [if_neg z, if_neg z, if_pos rfl]; dsimp only; rw [u_nn, e2, ih]
      cases ff (fitV w.1) k 0 <;> rfl
theorem CoI.wq (hI : CoI w 24 w') : WQ w w' := ⟨PW.of (fun r q1 q2 => R79.e hI.1 (by omega)), fun k _ => by rw [R79.e hI.1 (by decide)], fun r hr => hI.1 r (by unfold R79; omega), fun j _ => by rw [hI.1 81 (by unfold R79; omega)]⟩
theorem ClF.frq (hI : ClF X h v h') : FrQ X R h h' := hI.1.q (fun a ha => ⟨Or.inl (by unfold SCl at ha; omega), by unfold SCl at ha; omega⟩)
theorem LgR.g (hL : LgR h (X + 10) (X + 31) (X + 32) v) : ∃ g, g ≤ 10 ∧ v 1 14 = nI g ∧ ∀ k, k < g → bd (v 18 k) 0 60 := by
  obtain ⟨g, g1, g2, -, g4⟩ := hL
  exact ⟨g, g1, g2, fun k hk => (g4 k hk).2.2.1⟩
theorem first_no (v : VV) : ff (fitV v) 24 0 = none ↔ rowC (fitV v) 24 = 0 := by
  rw [rowC_0]
  constructor
  · intro hn q hq; exact ff_none hn q (by omega) (by omega)
  · intro hq; exact ff_no (fun j _ h2 => hq j (by omega))
theorem call_ruled (x : Int32) : Call X (f_X11_ruled G X x) (p_X12_ruled G x) := by
  intro h w ⟨own, R, hR⟩
  obtain ⟨U, c, t, hc⟩ := hR.cur
  have hB := hc.1
  have hS := hc.2.1.1
  have pin2 : ∀ w : MS, p_X12_in G x.toInt64 (0 : Int64) (2 : Int64) w = some (if 0 ≤ x ∧ x ≤ 2 then 1 else 0, w) := fun w => p_in_i G x 0 2 w
  unfold f_X11_ruled p_X12_ruled
  rw [u_ck hB.1.1, c_hasTrain hB hS, u_cb, p_isTrain hS, u_cw]
  rcases told01 hS with q | q
  · rw [q, if_pos rfl, if_pos rfl]; exact stay hR _
  rw [q, if_neg n10, if_neg n10, pin2, u_cw, rng_ge (N := 2)]
  by_cases hx : 0 ≤ x ∧ x ≤ 2
  rotate_left
  · rw [if_neg hx, if_neg hx, if_pos rfl]; exact stay hR _
  rw [if_pos hx, if_pos hx, if_neg n10]
  obtain ⟨hC, hCa⟩ := hc.2.2.1.cab q
  have hG := hR.1.2.2.2.2.2.2.1
  have r10 : m_r h X 10 = some (X + 54) := hR.1.1.2.2.2.2.2.2.2.2.2.2.1
  obtain ⟨h2, ⟨f1, -, f3, f4⟩, a2⟩ := c_compare (G := G) hC hS ⟨by have := hCa.1; omega, by have := hCa.2.2.2.1; omega⟩ hG hc.2.2.2.2.2.2.2.2 hB.1.2.2.2.1 hc.2.2.2.2.2.1
  have hI : ClF X h w.1 h2 := ⟨f1, f3, f4⟩
  obtain ⟨w2, b1, b2⟩ := p_laysCourses (G := G) hS hc.2.2.2.2.2.1.g
  have t2 : m_t h2 X = .inl 11 := by rw [f1.1]; exact hB.1.1
  have r2 : m_r h2 X 10 = some (X + 54) := by rw [f1.2.1]; exact r10
  have t3 : m_t h2 (X + 54) = .inl 1 := by rw [f1.1]; exact hG.1
  have fin : ∀ (F : Option (Int32 × AH)) (P : Option (Int32 × MS)), (∃ a, F = some (a, h2) ∧ P = some (a, w2)) → ∃ r h' w', F = some (r, h') ∧ P = some (r, w') ∧ Rel h' X w' ∧ Kp X h h' := fun F P ⟨a, q1, q2⟩ => ⟨a, h2, w2, q1, q2, ⟨own, R, (hR.frq hI.frq).wq b1.wq⟩, (hI.frq (R := R)).kp hR⟩
  have e23 : (23 : Int32) = nI 24 - 1 := by decide
  have bc : bcI (m_i h2 (X + 54) 3) = nI (rowC (fitV w.1) 24) := by rw [f4, bcI_N (rowN_lt _ 24), rowN_bc _ 24 (by decide)]
  refine fin _ _ ?_
  rw [u_ck hB.1.1, r10, u_ob, hB.1.2.1, u_ob, u_ck hG.1, a2, u_ob, b2, u_cw, e23, first_loop b1 _ _ _ 24 bN _ (by decide) (bN_gt (by decide))]
  by_cases x0 : x = 0
  · rw [if_pos x0, if_pos x0, u_ck t2, r2, u_ob, u_ck t3]
    unfold f_X1_fittingCount
    rw [u_ck t3, c_bitCount, u_cb, u_cb, bc]
    exact ⟨_, rfl, rfl⟩
  · rw [if_neg x0, if_neg x0, u_ck t2, r2, u_ob, u_ck t3, c_firstFitting hG hI, u_cb]
    have hf := first_no w.1
    have h24 : rowC (fitV w.1) 24 ≤ 24 := rowC_le _ _
    cases hff : ff (fitV w.1) 24 0 with
    | none =>
      rw [hf.mp hff]
      exact ⟨_, if_pos rfl, if_pos rfl⟩
    | some q =>
      have hq := ff_some hff
      have hne : ¬ nI (rowC (fitV w.1) 24) = 0 := nI_ne0 (by
        rcases Nat.eq_zero_or_pos (rowC (fitV w.1) 24) with z | z
        · rw [hf.mpr z] at hff; cases hff
        · exact z) (by omega)
      have hm1 : ¬ nI q = -1 := nI_m1 (by omega)
      show ∃ a, (if nI q = (-1 : Int32) then _ else _) = some (a, h2) ∧ _
      rw [if_neg hm1, if_neg hne]
      by_cases x1 : x = 1
      · rw [if_pos x1, if_pos x1]; exact ⟨_, rfl, rfl⟩
      · rw [if_neg x1, if_neg x1]; exact ⟨_, rfl, rfl⟩
theorem best_loop (hG : GC h X) (hS : St w.1) (hW : CoI w 24 w') : ∀ (d k n n' M b : Nat) (h' : AH), k + d = 61 → d < n → d < n' → b ≤ 60 → M ≤ 24 → ClF X h w.1 h' → ∃ r h2, ClF X h w.1 h2 ∧ lq3 (F_X1_bestMile_10 G (X + 54)) n (nI b) (nI M) (nI k) h' = some (r, h2) ∧ lw3 (P_X12_look_56 G) n' (nI b) (nI M) (nI k) w' = some (r, w')
  | 0, k, n + 1, n' + 1, M, b, h', e, _, _, hb, hM, hI => by
    refine ⟨nI b, h', hI, ?_, ?_⟩
    · show F_X1_bestMile_10 G (X + 54) _ _ _ _ _ = _
      rw [F_X1_bestMile_10, if_pos (show (60 : Int32) < nI k from nI_lt (a := 60) (by omega) (by omega))]
    · show P_X12_look_56 G _ _ _ _ _ = _
      rw [P_X12_look_56, if_pos (show (60 : Int32) < nI k from nI_lt (a := 60) (by omega) (by omega))]
  | d + 1, k, n + 1, n' + 1, M, b, h', e, hn, hn', hb, hM, hI => by
    obtain ⟨M1, h1, a1, a2, a3, a4⟩ := c_alikeAt (G := G) hG hS (m := k) (by omega) hI
    obtain ⟨M2, b1, b2, b3⟩ := p_mostAlike (G := G) (m := k) hW (by omega)
    have := a3.un b2
    subst this
    have t1 : m_t h' (X + 54) = .inl 1 := by rw [hI.1.1]; exact hG.1
    have n6 : ¬ (60 : Int32) < nI k := nI_nlt (b := k) (a := 60) (by omega) (by omega)
    by_cases z : M ≤ M1
    · obtain ⟨r, h2, c1, c2, c3⟩ := best_loop hG hS hW d (k + 1) n n' M b h1 (by omega) (by omega) (by omega) hb hM a2
      refine ⟨r, h2, c1, ?_, ?_⟩
      · show F_X1_bestMile_10 G (X + 54) _ _ _ _ _ = _
        rw [F_X1_bestMile_10, if_neg n6, u_ck t1, a4, u_cb, u_nn, if_pos (nI_le z (by omega))]; dsimp only; rw [u_nn, nI_1]; exact c2
      · show P_X12_look_56 G _ _ _ _ _ = _
        rw [P_X12_look_56, if_neg n6, b3, u_cw, u_nn, if_pos (nI_le z (by omega))]; dsimp only; rw [u_nn, if_pos (nI_le z (by omega))]; dsimp only; rw [u_nn, nI_1]; exact c3
    · obtain ⟨r, h2, c1, c2, c3⟩ := best_loop hG hS hW d (k + 1) n n' M1 k h1 (by omega) (by omega) (by omega) (by omega) a1 a2
      refine ⟨r, h2, c1, ?_, ?_⟩
      · show F_X1_bestMile_10 G (X + 54) _ _ _ _ _ = _
        rw [F_X1_bestMile_10, if_neg n6, u_ck t1, a4, u_cb, u_nn, if_neg (nI_ge (by omega) (by omega))]; dsimp only; rw [u_nn, nI_1]; exact c2
      · show P_X12_look_56 G _ _ _ _ _ = _
        rw [P_X12_look_56, if_neg n6, b3, u_cw, u_nn, if_neg (nI_ge (by omega) (by omega))]; dsimp only; rw [u_nn, if_neg (nI_ge (by omega) (by omega))]; dsimp only; rw [u_nn, nI_1]; exact c3
theorem rng_m1 {α : Type} {x N : Int32} {a b : α} : (if x < -1 then a else if x ≤ N then b else a) = if -1 ≤ x ∧ x ≤ N then b else a := by
  by_cases h1 : x < -1
  · rw [if_pos h1, if_neg (fun q => by have := q.1; rw [I_lt] at h1; rw [I_le] at this; omega)]
  · rw [if_neg h1]
    by_cases h2 : x ≤ N
    · rw [if_pos h2, if_pos (by rw [I_lt] at h1; rw [I_le] at h2; rw [I_le, I_le]; omega)]
    · rw [if_neg h2, if_neg (fun q => h2 q.2)]
theorem call_look (x : Int32) : Call X (f_X11_look G X x) (p_X12_look G x) := by
  intro h w ⟨own, R, hR⟩
  obtain ⟨U, c, t, hc⟩ := hR.cur
  have hB := hc.1
  have hS := hc.2.1.1
  have pin2 : ∀ w : MS, p_X12_in G x.toInt64 (-1 : Int64) (60 : Int64) w = some (if -1 ≤ x ∧ x ≤ 60 then 1 else 0, w) := fun w => p_in_i G x (-1) 60 w
  unfold f_X11_look p_X12_look
  rw [u_ck hB.1.1, c_hasTrain hB hS, u_cb, p_isTrain hS, u_cw]
  rcases told01 hS with q | q
  · rw [q, if_pos rfl, if_pos rfl]; exact stay hR _
  rw [q, if_neg n10, if_neg n10, pin2, u_cw, rng_m1 (N := 60)]
  by_cases hx : -1 ≤ x ∧ x ≤ 60
  rotate_left
  · rw [if_neg hx, if_neg hx, if_pos rfl]; exact stay hR _
  rw [if_pos hx, if_pos hx, if_neg n10]
  obtain ⟨hC, hCa⟩ := hc.2.2.1.cab q
  have hG := hR.1.2.2.2.2.2.2.1
  have r10 : m_r h X 10 = some (X + 54) := hR.1.1.2.2.2.2.2.2.2.2.2.2.1
  obtain ⟨h2, ⟨f1, -, f3, f4⟩, a2⟩ := c_compare (G := G) hC hS ⟨by have := hCa.1; omega, by have := hCa.2.2.2.1; omega⟩ hG hc.2.2.2.2.2.2.2.2 hB.1.2.2.2.1 hc.2.2.2.2.2.1
  have hI : ClF X h w.1 h2 := ⟨f1, f3, f4⟩
  obtain ⟨w2, b1, b2⟩ := p_laysCourses (G := G) hS hc.2.2.2.2.2.1.g
  have t2 : m_t h2 X = .inl 11 := by rw [f1.1]; exact hB.1.1
  have r2 : m_r h2 X 10 = some (X + 54) := by rw [f1.2.1]; exact r10
  have t3 : m_t h2 (X + 54) = .inl 1 := by rw [f1.1]; exact hG.1
  have fin : ∀ (F : Option (Int32 × AH)) (P : Option (Int32 × MS)), (∃ a h3, ClF X h w.1 h3 ∧ F = some (a, h3) ∧ P = some (a, w2)) → ∃ r h' w', F = some (r, h') ∧ P = some (r, w') ∧ Rel h' X w' ∧ Kp X h h' := fun F P ⟨a, h3, hI3, q1, q2⟩ => ⟨a, h3, w2, q1, q2, ⟨own, R, (hR.frq hI3.frq).wq b1.wq⟩, (hI3.frq (R := R)).kp hR⟩
  refine fin _ _ ?_
  rw [u_ck hB.1.1, r10, u_ob, hB.1.2.1, u_ob, u_ck hG.1, a2, u_ob, b2, u_cw, u_ck t2, r2, u_ob, u_ck t3, c_firstFitting hG hI, u_cb]
  have hf := first_no w.1
  have h24 : rowC (fitV w.1) 24 ≤ 24 := rowC_le _ _
  cases hff : ff (fitV w.1) 24 0 with
  | none =>
    rw [hf.mp hff]
    exact ⟨_, _, hI, if_pos rfl, if_pos rfl⟩
  | some q =>
    have hq := ff_some hff
    have hne : ¬ nI (rowC (fitV w.1) 24) = 0 := nI_ne0 (by
      rcases Nat.eq_zero_or_pos (rowC (fitV w.1) 24) with z | z
      · rw [hf.mpr z] at hff; cases hff
      · exact z) (by omega)
    have hm1 : ¬ nI q = -1 := nI_m1 (by omega)
    show ∃ a h3, _ ∧ (if nI q = (-1 : Int32) then _ else _) = some (a, h3) ∧ _
    rw [if_neg hm1, if_neg hne]
    by_cases x1 : x = -1
    · rw [if_pos x1, if_pos x1, u_ck t2, r2, u_ob, u_ck t3]
      obtain ⟨M1, h3, e1, e2, e3, e4⟩ := c_alikeAt (G := G) hG hS (m := 0) (by decide) hI
      obtain ⟨M2, g1, g2, g3⟩ := p_mostAlike (G := G) (m := 0) b1 (by decide)
      have := e3.un g2
      subst this
      obtain ⟨r, h4, k1, k2, k3⟩ := best_loop (G := G) hG hS b1 60 1 bN bN M1 0 h3 rfl (bN_gt (by decide)) (bN_gt (by decide)) (by decide) e1 e2
      unfold f_X1_bestMile
      rw [nI_0] at e4 g3 k2 k3
      refine ⟨r, h4, k1, ?_, ?_⟩
      · rw [u_ck t3, e4, u_cb]
        show cb (lq3 (F_X1_bestMile_10 G (X + 54)) bN 0 (nI M1) (nI 1) h3) _ = _
        rw [k2, u_cb]
      · rw [g3, u_cw]; exact k3
    · have hx0 : 0 ≤ x ∧ x ≤ 60 := ⟨by
        have := hx.1
        rw [I_le] at this ⊢
        have i1 : (-1 : Int32).toInt = -1 := rfl
        have i0 : (0 : Int32).toInt = 0 := rfl
        have : x.toInt ≠ -1 := fun e => x1 (by rw [I_eq]; exact e)
        omega, hx.2⟩
      obtain ⟨m, rfl, hm, -⟩ := nat_of hx0
      have i60 : (60 : Int32).toInt = 60 := rfl
      obtain ⟨M1, h3, e1, e2, e3, e4⟩ := c_alikeAt (G := G) hG hS (m := m) (by omega) hI
      obtain ⟨M2, g1, g2, g3⟩ := p_mostAlike (G := G) (m := m) b1 (by omega)
      have := e3.un g2
      subst this
      rw [if_neg x1, if_neg x1, u_ck t2, r2, u_ob, u_ck t3, e4, u_cb, g3, u_cw]
      exact ⟨_, h3, e2, rfl, rfl⟩
end
