/-! PURE 98h: courses. -/
section
variable {G : GG} {own : Nat → Nat} {R X c t U : Nat} {h h1 h2 h' : AH} {w w' w1 w2 w3 : MS} {v v' : VV}
/-- the warmth by a pair of a hole and a knob, mile by mile -/
def crs (v : VV) (c : Nat) : Nat → Int32
  | 0 => v 1 1
  | m + 1 => warmI (crs v c m) (if v 1 3 ≤ nI m then nI c - nI c / 4 * 4 else v 1 2) (nI c / 4) (coldV v (nI m))
theorem crs_bd (hS : St v) (c m : Nat) : bd (crs v c m) 0 60 := by
  cases m with
  | zero => exact st_tw hS
  | succ m => exact warm_bd _ _ _ _
theorem crs_n (hS : St v) (c m : Nat) : ∃ k : Nat, k ≤ 60 ∧ crs v c m = nI k := bd_nI (b := 60) (crs_bd hS c m)
def lgN (v : VV) : Nat := (v 1 14).toNatClampNeg
/-- the pair is as the first k logs say -/
def fitB (v : VV) (c k : Nat) : Bool := decide (∀ j, j < k → crs v c (v 18 j).toNatClampNeg = v 19 j)
def fitV (v : VV) (c : Nat) : Bool := fitB v c (lgN v)
theorem fitB_0 (v : VV) (c : Nat) : fitB v c 0 = true := decide_eq_true (fun j hj => absurd hj (Nat.not_lt_zero j))
theorem fitB_s {v : VV} {c k : Nat} (h : fitB v c k = true) (e : crs v c (v 18 k).toNatClampNeg = v 19 k) : fitB v c (k + 1) = true := by
  have := of_decide_eq_true h
  exact decide_eq_true (fun j hj => by
    by_cases z : j = k
    · subst z; exact e
    · exact this j (by omega))
theorem fitB_no {v : VV} {c k n : Nat} (hk : k < n) (e : ¬ crs v c (v 18 k).toNatClampNeg = v 19 k) : fitB v c n = false := decide_eq_false (fun q => e (q k hk))
theorem coldV_cg {v v' : VV} {m : Int32} (e : ∀ r, r = 1 ∨ r = 15 ∨ r = 16 ∨ r = 17 → v' r = v r) : coldV v' m = coldV v m := by
  unfold coldV sC; rw [e 1 (by simp), e 15 (by simp), e 16 (by simp), e 17 (by simp)]
theorem i61 (q m : Nat) : nI q * 61 + nI m = nI (61 * q + m) := by
  show nI q * nI 61 + nI m = _
  rw [pk_mul, nI_add, Nat.mul_comm]
theorem i61' (q m : Nat) : (61 : Int32) * nI q + nI m = nI (61 * q + m) := by
  show nI 61 * nI q + nI m = _
  rw [pk_mul, nI_add]
/-- cells of the climate -/
def SCl (X a : Nat) : Prop := X + 54 ≤ a ∧ a < X + 58
theorem cold_loop (hC : Cab h c t v) (hS : St v) (hX : X + 58 ≤ c ∧ X + 58 ≤ t) (hG : GC h X) : ∀ (d k n : Nat) (h' : AH), k + d = 60 → d < n → Fr (SCl X) h h' → (∀ j, j < k → m_i h' (X + 55) j = coldV v (nI j)) → ∃ h2, Fr (SCl X) h h2 ∧ (∀ j, j < 60 → m_i h2 (X + 55) j = coldV v (nI j)) ∧ ∀ s K, lq1 (F_X1_compare_10 G (X + 54) s t K) n (nI k) h' = K h2
  | 0, k, n + 1, h', e, _, hF, hc => by
    refine ⟨h', hF, fun j hj => hc j (by omega), fun s K => ?_⟩
    show F_X1_compare_10 G (X + 54) s t K _ _ _ = _
    rw [F_X1_compare_10, if_pos (show (60 : Int32) ≤ nI k from nI_le (a := 60) (by omega) (by omega))]
  | d + 1, k, n + 1, h', e, hn, hF, hc => by
    have hC' : Cab h' c t v := hC.fr (st_N8 hS) hF (fun a ha => by unfold SCl at ha; omega)
    obtain ⟨h2, a1, a2, a3⟩ := cold_loop hC hS hX hG d (k + 1) n (m_si h' (X + 55) k (coldV v (nI k))) (by omega) (by omega) (hF.tr (Fr.si (by unfold SCl; omega))) (fun j hj => by
      by_cases z : j = k
      · subst z; rw [m_i_ss]
      · rw [m_i_sj z]; exact hc j (by omega))
    refine ⟨h2, a1, a2, fun s K => ?_⟩
    show F_X1_compare_10 G (X + 54) s t K _ _ _ = _
    rw [F_X1_compare_10, if_neg (show ¬ (60 : Int32) ≤ nI k from nI_ge (b := 60) (by omega) (by omega)), u_ck (by rw [hF.1]; exact hG.1), hF.2.1, hG.2.1, u_ob, u_ck (tr_t hC'), c_coldAt hC' hS, u_cb, u_ck (ixb_e (n := 61) (by rw [hF.1]; exact hG.2.2.2.2.1) (by omega) (by decide)), u_nn, nI_clamp (by omega), u_nn, nI_1]
    exact a3 s K
theorem follow_loop (hC : Cab h c t v) (hS : St v) (hX : X + 58 ≤ c ∧ X + 58 ≤ t) (hG : GC h X) {q : Nat} (hq : q < 24) : ∀ (d k n : Nat) (h' : AH), k + d = 60 → d < n → Fr (SCl X) h h' → (∀ j, j < 60 → m_i h' (X + 55) j = coldV v (nI j)) → (∀ m, m ≤ k → m_i h' (X + 56) (61 * q + m) = crs v q m) → ∃ h2, Fr (fun a => a = X + 56) h' h2 ∧ (∀ m, m ≤ 60 → m_i h2 (X + 56) (61 * q + m) = crs v q m) ∧ (∀ j, j < 61 * q → m_i h2 (X + 56) j = m_i h' (X + 56) j) ∧ lq2 (F_X1_follow_18 G (X + 54) t (nI q)) n (crs v q k) (nI k) h' = some h2
  | 0, k, n + 1, h', e, _, hF, hc, hp => by
    refine ⟨h', Fr.rf, fun m hm => hp m (by omega), fun j _ => rfl, ?_⟩
    show F_X1_follow_18 G (X + 54) t (nI q) _ _ _ _ = _
    rw [F_X1_follow_18, if_pos (show (60 : Int32) ≤ nI k from nI_le (a := 60) (by omega) (by omega))]
  | d + 1, k, n + 1, h', e, hn, hF, hc, hp => by
    have hC' : Cab h' c t v := hC.fr (st_N8 hS) hF (fun a ha => by unfold SCl at ha; omega)
    obtain ⟨h2, a1, a2, a3, a4⟩ := follow_loop hC hS hX hG hq d (k + 1) n (m_si h' (X + 56) (61 * q + (k + 1)) (crs v q (k + 1))) (by omega) (by omega) (hF.tr (Fr.si (by unfold SCl; omega))) (fun j hj => by rw [m_i_sb (by omega)]; exact hc j hj) (fun m hm => by
      by_cases z : m = k + 1
      · subst z; rw [m_i_ss]
      · rw [m_i_sj (by omega)]; exact hp m (by omega))
    refine ⟨h2, Fr.s1.tr a1, a2, fun j hj => by rw [a3 j hj, m_i_sj (by omega)], ?_⟩
    show F_X1_follow_18 G (X + 54) t (nI q) _ _ _ _ = _
    have ix : nI q * 61 + nI k + 1 = nI (61 * q + (k + 1)) := by rw [i61, nI_1]; rfl
    have key : ∀ (self : Int32 → Int32 → AH → Option AH) (s : Int32), (ck (m_t h' (X + 54) = .inl 1) <| ob (m_r h' (X + 54) 0) fun b11 => ck (ixb h' b11 .int (nI k) = true) <| cb (f_X11_warmthAfter G (crs v q k) s (nI q / (4 : Int32)) (m_i h' b11 (nI k).toNatClampNeg) h') fun r16 h14 => ck (m_t h14 (X + 54) = .inl 1) <| ob (m_r h14 (X + 54) 1) fun b18 => ck (ixb h14 b18 .int (((nI q * (61 : Int32)) + nI k) + (1 : Int32)) = true) <| nn (m_si h14 b18 (((nI q * (61 : Int32)) + nI k) + (1 : Int32)).toNatClampNeg r16) fun h21 => nn (nI k + (1 : Int32)) fun x22 => self r16 x22 h21) = (self (warmI (crs v q k) s (nI q / 4) (coldV v (nI k))) (nI (k + 1)) (m_si h' (X + 56) (61 * q + (k + 1)) (warmI (crs v q k) s (nI q / 4) (coldV v (nI k)))) : Option AH) := fun self s => by
      have t1 : m_t h' (X + 54) = .inl 1 := by rw [hF.1]; exact hG.1
      rw [u_ck t1, hF.2.1, hG.2.1, u_ob, u_ck (ixb_e (n := 61) (by rw [hF.1]; exact hG.2.2.2.2.1) (by omega) (by decide)), c_warmthAfter, u_cb, u_ck t1, hF.2.1, hG.2.2.1, u_ob, ix, u_ck (ixb_e (n := 1464) (by rw [hF.1]; exact hG.2.2.2.2.2.1) (by omega) (by decide)), u_nn, nI_clamp (show 61 * q + (k + 1) < 2 ^ 31 by omega), u_nn, nI_1, nI_clamp (show k < 2 ^ 31 by omega), hc k (by omega)]
    rw [F_X1_follow_18, if_neg (show ¬ (60 : Int32) ≤ nI k from nI_ge (b := 60) (by omega) (by omega)), u_ck (tr_t hC'), u_nn, tr_i3 hC', tr_i2 hC']
    by_cases z : v 1 3 ≤ nI k
    · rw [if_pos z]
      refine (key _ _).trans ?_
      have ec : crs v q (k + 1) = warmI (crs v q k) (nI q - nI q / 4 * 4) (nI q / 4) (coldV v (nI k)) := by
        show warmI _ (if v 1 3 ≤ nI k then _ else _) _ _ = _
        rw [if_pos z]
      rw [← ec]; exact a4
    · rw [if_neg z]
      refine (key _ _).trans ?_
      have ec : crs v q (k + 1) = warmI (crs v q k) (v 1 2) (nI q / 4) (coldV v (nI k)) := by
        show warmI _ (if v 1 3 ≤ nI k then _ else _) _ _ = _
        rw [if_neg z]
      rw [← ec]; exact a4
theorem c_follow (hC : Cab h c t v) (hS : St v) (hX : X + 58 ≤ c ∧ X + 58 ≤ t) (hG : GC h X) {q : Nat} (hq : q < 24) (hF : Fr (SCl X) h h') (hc : ∀ j, j < 60 → m_i h' (X + 55) j = coldV v (nI j)) : ∃ h2, Fr (fun a => a = X + 56) h' h2 ∧ (∀ m, m ≤ 60 → m_i h2 (X + 56) (61 * q + m) = crs v q m) ∧ (∀ j, j < 61 * q → m_i h2 (X + 56) j = m_i h' (X + 56) j) ∧ f_X1_follow G (X + 54) t (nI q) h' = some h2 := by
  have hC' : Cab h' c t v := hC.fr (st_N8 hS) hF (fun a ha => by unfold SCl at ha; omega)
  obtain ⟨h2, a1, a2, a3, a4⟩ := follow_loop (G := G) hC hS hX hG hq 60 0 bN (m_si h' (X + 56) (61 * q) (v 1 1)) rfl (bN_gt (by decide)) (hF.tr (Fr.si (by unfold SCl; omega))) (fun j hj => by rw [m_i_sb (by omega)]; exact hc j hj) (fun m hm => by
    have : m = 0 := by omega
    subst this; exact m_i_ss _ _ _ _)
  refine ⟨h2, Fr.s1.tr a1, a2, fun j hj => by rw [a3 j hj, m_i_sj (by omega)], ?_⟩
  unfold f_X1_follow
  have ix : nI q * 61 = nI (61 * q) := by
    show nI q * nI 61 = _
    rw [pk_mul, Nat.mul_comm]
  rw [u_ck (tr_t hC'), u_nn, tr_i1 hC', u_ck (by rw [hF.1]; exact hG.1), hF.2.1, hG.2.2.1, u_ob, ix, u_ck (ixb_e (n := 1464) (by rw [hF.1]; exact hG.2.2.2.2.2.1) (by omega) (by decide)), u_nn, nI_clamp (by omega)]
  exact a4
theorem fits_loop {g q : Nat} (hG : GC h X) (hs : ScS h (X + 10) (X + 31) (X + 32)) (hq : q < 24) (hg : g ≤ 10) (h4 : m_i h (X + 10) 4 = nI g) (hl : ∀ k, k < g → m_i h (X + 31) k = v 18 k ∧ m_i h (X + 32) k = v 19 k ∧ bd (v 18 k) 0 60) (hp : ∀ m, m ≤ 60 → m_i h (X + 56) (61 * q + m) = crs v q m) : ∀ (d k n : Nat), k + d = g → d < n → fitB v q k = true → lq1 (F_X1_fits_2 G (X + 54) (X + 10) (nI q)) n (nI k) h = some (if fitB v q g then 1 else 0, h)
  | 0, k, n + 1, e, _, hf => by
    have : k = g := by omega
    subst this
    show F_X1_fits_2 G (X + 54) (X + 10) (nI q) _ _ _ = _
    rw [F_X1_fits_2, u_ck hs.1, h4, if_pos (nI_le (Nat.le_refl _) (by omega)), if_pos hf]
  | d + 1, k, n + 1, e, hn, hf => by
    show F_X1_fits_2 G (X + 54) (X + 10) (nI q) _ _ _ = _
    obtain ⟨l1, l2, l3⟩ := hl k (by omega)
    obtain ⟨m, hm, em⟩ := bd_nI (b := 60) l3
    have ec : (v 18 k).toNatClampNeg = m := by rw [em]; exact nI_clamp (by omega)
    have x10 : ∀ a, m_t h a = .inr (.int, 10) → ixb h a .int (nI k) = true := fun a ha => ixb_e ha (by omega) (by decide)
    rw [F_X1_fits_2, u_ck hs.1, h4, if_neg (nI_ge (show k < g by omega) (by omega)), u_ck hG.1, hG.2.2.1, u_ob, hs.2.1, u_ob, u_ck (x10 _ hs.2.2.2.1), nI_clamp (show k < 2 ^ 31 by omega), l1, em, i61, u_ck (ixb_e (n := 1464) hG.2.2.2.2.2.1 (by omega) (by decide)), hs.2.2.1, u_ob, u_ck (x10 _ hs.2.2.2.2), nI_clamp (show 61 * q + m < 2 ^ 31 by omega), l2, hp m hm, u_nn, nI_1]
    by_cases z : crs v q m = v 19 k
    · rw [if_pos z]
      exact fits_loop hG hs hq hg h4 hl hp d (k + 1) n (by omega) (by omega) (fitB_s hf (by rw [ec]; exact z))
    · rw [if_neg z, fitB_no (show k < g by omega) (by rw [ec]; exact z)]
      rfl
/-- what the climate holds after k pairs -/
def ClI (X : Nat) (h : AH) (v : VV) (k : Nat) (h' : AH) : Prop := Fr (SCl X) h h' ∧ (∀ j, j < 60 → m_i h' (X + 55) j = coldV v (nI j)) ∧ (∀ q, q < k → ∀ m, m ≤ 60 → m_i h' (X + 56) (61 * q + m) = crs v q m) ∧ m_i h' (X + 54) 3 = nI (rowN (fitV v) k)
theorem pair_loop (hC : Cab h c t v) (hS : St v) (hX : X + 58 ≤ c ∧ X + 58 ≤ t) (hG : GC h X) (hs : ScS h (X + 10) (X + 31) (X + 32)) (hL : LgR h (X + 10) (X + 31) (X + 32) v) : ∀ (d k n : Nat) (h' : AH), k + d = 24 → d < n → ClI X h v k h' → ∃ h2, ClI X h v 24 h2 ∧ lq1 (F_X1_compare_40 G (X + 54) (X + 10) t) n (nI k) h' = some h2
  | 0, k, n + 1, h', e, _, hI => by
    have : k = 24 := by omega
    subst this
    refine ⟨h', hI, ?_⟩
    show F_X1_compare_40 G (X + 54) (X + 10) t _ _ _ = _
    rw [F_X1_compare_40, if_pos (show (24 : Int32) ≤ nI 24 from nI_le (a := 24) (by omega) (by omega))]
  | d + 1, k, n + 1, h', e, hn, ⟨hF, hc, hp, hb⟩ => by
    obtain ⟨h1, b1, b2, b3, b4⟩ := c_follow (G := G) hC hS hX hG (q := k) (by omega) hF hc
    have hF1 : Fr (SCl X) h h1 := hF.tr (b1.wk (fun a ha => by unfold SCl; omega))
    obtain ⟨g, g1, g2, g3, g4⟩ := hL
    have eg : lgN v = g := by unfold lgN; rw [g2]; exact nI_clamp (by omega)
    have hG1 : GC h1 X := by unfold GC at hG ⊢; rw [hF1.1, hF1.2.1]; exact hG
    have hs1 : ScS h1 (X + 10) (X + 31) (X + 32) := by unfold ScS at hs ⊢; rw [hF1.1, hF1.2.1]; exact hs
    have ei : ∀ a, ¬ SCl X a → m_i h1 a = m_i h a := fun a ha => (hF1.2.2.2 a ha).1
    have f1 := fits_loop (G := G) (v := v) hG1 hs1 (q := k) (g := g) (by omega) g1 (by rw [ei _ (by unfold SCl; omega)]; exact g3) (fun j hj => by rw [ei _ (by unfold SCl; omega), ei _ (by unfold SCl; omega)]; exact ⟨(g4 j hj).1, (g4 j hj).2.1, (g4 j hj).2.2.1⟩) b2 g 0 bN (Nat.zero_add _) (bN_gt (by omega)) (fitB_0 v k)
    have f2 : f_X1_fits G (X + 54) (X + 10) (nI k) h1 = some (if fitV v k then 1 else 0, h1) := by
      unfold f_X1_fits fitV; rw [eg]; exact f1
    have e54 : m_i h1 (X + 54) = m_i h' (X + 54) := (b1.2.2.2 (X + 54) (by omega)).1
    have eor : m_i h1 (X + 54) 3 ||| (if fitV v k then (1 : Int32) <<< (nI k &&& 31) else 0) = nI (rowN (fitV v) (k + 1)) := by
      rw [e54, hb]; exact rowN_or (fitV v) k (by omega)
    obtain ⟨h2, c1, c2⟩ := pair_loop hC hS hX hG hs ⟨g, g1, g2, g3, g4⟩ d (k + 1) n (m_si h1 (X + 54) 3 (nI (rowN (fitV v) (k + 1)))) (by omega) (by omega) ⟨hF1.tr (Fr.si (by unfold SCl; omega)), fun j hj => by rw [m_i_sb (by omega), (b1.2.2.2 (X + 55) (by omega)).1]; exact hc j hj, fun q hq m hm => by
        rw [m_i_sb (by omega)]
        by_cases z : q = k
        · subst z; exact b2 m hm
        · rw [b3 _ (by omega)]; exact hp q (by omega) m hm, m_i_ss _ _ _ _⟩
    refine ⟨h2, c1, ?_⟩
    show F_X1_compare_40 G (X + 54) (X + 10) t _ _ _ = _
    rw [F_X1_compare_40, if_neg (show ¬ (24 : Int32) ≤ nI k from nI_ge (b := 24) (by omega) (by omega)), u_ck (by rw [hF.1]; exact hG.1), b4, u_ob, u_ck hG1.1, f2, u_cb, u_nn]
    by_cases z : fitV v k = true
    · rw [if_pos z] at eor
      rw [if_pos z, if_neg n10]; dsimp only; rw [u_ck hG1.1, eor, u_nn, u_nn, nI_1]; exact c2
    · rw [if_neg z] at eor
      rw [if_neg z, if_pos rfl]; dsimp only; rw [u_ck hG1.1, eor, u_nn, u_nn, nI_1]; exact c2
theorem c_compare (hC : Cab h c t v) (hS : St v) (hX : X + 58 ≤ c ∧ X + 58 ≤ t) (hG : GC h X) (hs : ScS h (X + 10) (X + 31) (X + 32)) (h0 : m_r h (X + 10) 0 = some c) (hL : LgR h (X + 10) (X + 31) (X + 32) v) : ∃ h2, ClI X h v 24 h2 ∧ f_X1_compare G (X + 54) (X + 10) h = some h2 := by
  obtain ⟨h1, a1, a2, a3⟩ := cold_loop (G := G) hC hS hX hG 60 0 bN h rfl (bN_gt (by decide)) Fr.rf (fun j hj => by omega)
  obtain ⟨h2, c1, c2⟩ := pair_loop (G := G) hC hS hX hG hs hL 24 0 bN (m_si h1 (X + 54) 3 0) rfl (bN_gt (by decide)) ⟨a1.tr (Fr.si (by unfold SCl; omega)), fun j hj => by rw [m_i_sb (by omega)]; exact a2 j hj, fun q hq => by omega, by rw [m_i_ss]; rfl⟩
  refine ⟨h2, c1, ?_⟩
  unfold f_X1_compare
  rw [u_ck hs.1, h0, u_ob, u_ck (cab_t hC), cab_0 hC, u_ob]
  refine (a3 (X + 10) _).trans ?_
  rw [u_ck (by rw [a1.1]; exact hG.1), u_nn]
  exact c2
end
