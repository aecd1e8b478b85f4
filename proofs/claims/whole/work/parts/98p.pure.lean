/-! PURE 98p: plan: what the class takes from each mile. -/
/-- the reference's rows, mile by mile, were they gone through -/
def rl (G : GG) (w : MS) : Nat → MS
  | 0 => w
  | i + 1 => match p_X12_rolls G (rl G w i) with | some y => y.2 | none => rl G w i
section
variable {G : GG} {own : Nat → Nat} {R X c t U : Nat} {h h1 h2 h' : AH} {w w' w1 w2 w3 : MS} {v v' : VV}
def wisP (v : VV) (k : Nat) : Int32 := fs (fun q a => a + if v 10 q = 0 then 0 else v 6 q) k 0 0
def wpP (v : VV) (a : Int32) (k : Nat) : Int32 := fs (fun q s => if v 10 q = 0 then s else s + (a - v 6 q) * (a - v 6 q)) k 0 0
def hpP (v : VV) (x : Int32) (k : Nat) : Int32 := fs (fun q s => if v 10 q = 0 then s else s + ((airI (v 9 q) x - v 7 q) * (airI (v 9 q) x - v 7 q) + tollV v x)) k 0 0
def cntP (v : VV) (k : Nat) : Int32 := fs (fun q a => a + v 10 q) k 0 0
def sbP (v : VV) (x : Int32) (k : Nat) : Int32 × Int32 := fs (sbS v x) k 0 (0, 0)
def byW (v : VV) (a : Int32) (k : Nat) : Int32 := ((cntP v k) * a) * a - ((2 : Int32) * a) * wisP v k
theorem wisP_s (v : VV) (k : Nat) : wisP v (k + 1) = wisP v k + if v 10 k = 0 then 0 else v 6 k := by unfold wisP; rw [fs_snoc, Nat.zero_add]
theorem wpP_s (v : VV) (a : Int32) (k : Nat) : wpP v a (k + 1) = if v 10 k = 0 then wpP v a k else wpP v a k + (a - v 6 k) * (a - v 6 k) := by unfold wpP; rw [fs_snoc, Nat.zero_add]
theorem hpP_s (v : VV) (x : Int32) (k : Nat) : hpP v x (k + 1) = if v 10 k = 0 then hpP v x k else hpP v x k + ((airI (v 9 k) x - v 7 k) * (airI (v 9 k) x - v 7 k) + tollV v x) := by unfold hpP; rw [fs_snoc, Nat.zero_add]
theorem cntP_s (v : VV) (k : Nat) : cntP v (k + 1) = cntP v k + v 10 k := by unfold cntP; rw [fs_snoc, Nat.zero_add]
theorem sbP_s (v : VV) (x : Int32) (k : Nat) : sbP v x (k + 1) = sbS v x k (sbP v x k) := by unfold sbP; rw [fs_snoc, Nat.zero_add]
/-- the part of the warmth goes by its square and its double -/
theorem part_e (hS : St v) (a x : Int32) : ∀ k, k ≤ sN v → byW v a k + ((sbP v x k).1 - byW v (v 1 11) k) = wpP v a k + hpP v x k
  | 0, _ => by
    show byW v a 0 + ((0 : Int32) - byW v (v 1 11) 0) = 0 + 0
    have z : ∀ b, byW v b 0 = 0 := fun b => by
      show ((0 : Int32) * b) * b - ((2 : Int32) * b) * 0 = 0
      rw [Int32.zero_mul, Int32.zero_mul, Int32.mul_zero, Int32.sub_self]
    rw [z, z]; decide
  | k + 1, hk => by
    have ih := part_e hS a x k (by omega)
    rcases ab01 hS (q := k) (by omega) with e | e
    · have z : ∀ b, byW v b (k + 1) = byW v b k := fun b => by
        unfold byW; rw [cntP_s, wisP_s, e, if_pos rfl, Int32.add_zero, Int32.add_zero]
      rw [z, z, sbP_s, wpP_s, hpP_s, if_pos e, if_pos e]
      unfold sbS; rw [if_pos e]; exact ih
    · have n0 : ¬ v 10 k = 0 := by rw [e]; decide
      have z : ∀ b, byW v b (k + 1) = ((cntP v k + 1) * b) * b - ((2 : Int32) * b) * (wisP v k + v 6 k) := fun b => by
        unfold byW; rw [cntP_s, wisP_s, e, if_neg (by decide)]
      rw [z, z, sbP_s, wpP_s, hpP_s, if_neg n0, if_neg n0]
      unfold sbS; rw [if_neg n0]
      show _ + (((sbP v x k).1 + sfV v k x) - _) = _
      unfold byW at ih
      unfold sfV unV
      generalize (sbP v x k).1 = s at ih ⊢
      generalize cntP v k = n at ih ⊢
      generalize wisP v k = i at ih ⊢
      generalize wpP v a k = p at ih ⊢
      generalize hpP v x k = q at ih ⊢
      generalize v 6 k = u
      generalize v 1 11 = b at ih ⊢
      generalize airI (v 9 k) x - v 7 k = f
      generalize tollV v x = g
      grind
/-- cells of the planner -/
def SPl (X a : Nat) : Prop := X + 45 ≤ a ∧ a < X + 54
theorem GP.r0 (hG : GP h X) : m_r h (X + 44) 0 = some (X + 45) := hG.2.1 0 (by decide)
theorem GP.r1 (hG : GP h X) : m_r h (X + 44) 1 = some (X + 46) := hG.2.1 1 (by decide)
theorem GP.r2 (hG : GP h X) : m_r h (X + 44) 2 = some (X + 47) := hG.2.1 2 (by decide)
theorem GP.r3 (hG : GP h X) : m_r h (X + 44) 3 = some (X + 48) := hG.2.1 3 (by decide)
theorem GP.r4 (hG : GP h X) : m_r h (X + 44) 4 = some (X + 49) := hG.2.1 4 (by decide)
theorem GP.r5 (hG : GP h X) : m_r h (X + 44) 5 = some (X + 50) := hG.2.1 5 (by decide)
theorem GP.r6 (hG : GP h X) : m_r h (X + 44) 6 = some (X + 51) := hG.2.1 6 (by decide)
theorem GP.r7 (hG : GP h X) : m_r h (X + 44) 7 = some (X + 52) := hG.2.1 7 (by decide)
theorem GP.r8 (hG : GP h X) : m_r h (X + 44) 8 = some (X + 53) := hG.2.1 8 (by decide)
theorem GP.fr {S : Nat → Prop} (hG : GP h X) (hF : Fr S h h') : GP h' X := by unfold GP at hG ⊢; rw [hF.1, hF.2.1]; exact hG
theorem wish_loop (hC : Cab h (X + 34) t v) (hS : St v) (hA : Ab v) (ht : X + 122 ≤ t) (hG : GP h X) {k : Nat} (hk : k < 24) : ∀ (d q n : Nat) (h' : AH), q + d = sN v → d < n → Fr (fun a => a = X + 46) h h' → m_i h' (X + 46) k = wisP v q → (∀ j, j ≠ k → m_i h' (X + 46) j = m_i h (X + 46) j) → ∃ h2, Fr (fun a => a = X + 46) h h2 ∧ m_i h2 (X + 46) k = wisP v (sN v) ∧ (∀ j, j ≠ k → m_i h2 (X + 46) j = m_i h (X + 46) j) ∧ ∀ b K, lq1 (F_X4_prepare_36 G (X + 44) (X + 34) b (nI k) K) n (nI q) h' = K h2
  | 0, q, n + 1, h', e, _, hF, h1, h2 => by
    have eq : q = sN v := by omega
    subst eq
    have hC' : Cab h' (X + 34) t v := hC.fr (st_N8 hS) hF (fun a ha => by omega)
    refine ⟨h', hF, h1, h2, fun b K => ?_⟩
    show F_X4_prepare_36 G (X + 44) (X + 34) b (nI k) K _ _ _ = _
    rw [F_X4_prepare_36, u_ck (cab_t hC'), cab_0 hC', u_ob, u_ck (tr_t hC'), tr_i5 hC', if_pos (of_eq_true (nle_N hS))]
  | d + 1, q, n + 1, h', e, hn, hF, h1, h2 => by
    have hq : q < sN v := by omega
    have hC' : Cab h' (X + 34) t v := hC.fr (st_N8 hS) hF (fun a ha => by omega)
    have hG' := hG.fr hF
    have g1 : m_r h' (X + 44) 1 = some (X + 46) := hG'.r1
    have xk : ixb h' (X + 46) .int (nI k) = true := ixb_e (n := 24) hG'.2.2.2.1 hk (by decide)
    obtain ⟨h3, b1, b2, b3, b4⟩ := wish_loop hC hS hA ht hG hk d (q + 1) n (m_si h' (X + 46) k (wisP v (q + 1))) (by omega) (by omega) (hF.tr Fr.s1) (m_i_ss _ _ _ _) (fun j hj => by rw [m_i_sj hj]; exact h2 j hj)
    refine ⟨h3, b1, b2, b3, fun b K => ?_⟩
    show F_X4_prepare_36 G (X + 44) (X + 34) b (nI k) K _ _ _ = _
    rw [F_X4_prepare_36, u_ck (cab_t hC'), cab_0 hC', u_ob, u_ck (tr_t hC'), tr_i5 hC', if_neg (of_eq_false (nle_q hS hq)), u_ck hG'.1, g1, u_ob, u_ck xk, c_isAboard hC' hS hA hq, u_cb, u_nn, nI_clamp (show k < 2 ^ 31 by omega), h1]
    by_cases z : v 10 q = 0
    · have ew : wisP v q + 0 = wisP v (q + 1) := by rw [wisP_s, if_pos z]
      rw [if_pos z]; dsimp only; rw [u_ck xk, u_nn, ew, u_nn, nI_1]; exact b4 b K
    · have ew : wisP v q + v 6 q = wisP v (q + 1) := by rw [wisP_s, if_neg z]
      rw [if_neg z, u_ck (cab_t hC'), cab_0 hC', u_ob, u_ck (tr_t hC'), tr_6 hC', u_ob, u_ck (tr_x1 hC' hS hq), qc hS hq, tr_rq hC' hS hq, u_ob, u_ck (tr_tq hC' hS hq), tr_q3 hC' hq]; dsimp only; rw [u_ck xk, u_nn, ew, u_nn, nI_1]; exact b4 b K
theorem i6 (k x : Nat) : nI k * 6 + nI x = nI (6 * k + x) := by
  show nI k * nI 6 + nI x = _
  rw [pk_mul, nI_add, Nat.mul_comm]
theorem i6' (k x : Nat) : (6 : Int32) * nI k + nI x = nI (6 * k + x) := by
  show nI 6 * nI k + nI x = _
  rw [pk_mul, nI_add]
theorem fix_loop (hC : Cab h (X + 34) t v) (hS : St v) (hA : Ab v) (ht : X + 122 ≤ t) (hG : GP h X) {k : Nat} (hk : k < 24) (B : Int32) : ∀ (d q n : Nat) (h' : AH), q + d = 6 → d < n → Fr (fun a => a = X + 49) h h' → (∀ x, x < q → m_i h' (X + 49) (6 * k + x) = (sbV v (nI x)).1 - B) → (∀ j, j < 6 * k → m_i h' (X + 49) j = m_i h (X + 49) j) → ∃ h2, Fr (fun a => a = X + 49) h h2 ∧ (∀ x, x < 6 → m_i h2 (X + 49) (6 * k + x) = (sbV v (nI x)).1 - B) ∧ (∀ j, j < 6 * k → m_i h2 (X + 49) j = m_i h (X + 49) j) ∧ ∀ b K, lq1 (F_X4_prepare_124 G (X + 44) (X + 34) b (nI k) B K) n (nI q) h' = K h2
  | 0, q, n + 1, h', e, _, hF, h1, h2 => by
    refine ⟨h', hF, fun x hx => h1 x (by omega), h2, fun b K => ?_⟩
    show F_X4_prepare_124 G (X + 44) (X + 34) b (nI k) B K _ _ _ = _
    rw [F_X4_prepare_124, if_pos (show (6 : Int32) ≤ nI q from nI_le (a := 6) (by omega) (by omega))]
  | d + 1, q, n + 1, h', e, hn, hF, h1, h2 => by
    have hC' : Cab h' (X + 34) t v := hC.fr (st_N8 hS) hF (fun a ha => by omega)
    have hG' := hG.fr hF
    have g1 : m_r h' (X + 44) 4 = some (X + 49) := hG'.r4
    have xk : ixb h' (X + 49) .int (nI (6 * k + q)) = true := ixb_e (n := 144) hG'.2.2.2.2.2.2.1 (by omega) (by decide)
    obtain ⟨h3, b1, b2, b3, b4⟩ := fix_loop hC hS hA ht hG hk B d (q + 1) n (m_si h' (X + 49) (6 * k + q) ((sbV v (nI q)).1 - B)) (by omega) (by omega) (hF.tr Fr.s1) (fun x hx => by
      by_cases z : x = q
      · subst z; rw [m_i_ss]
      · rw [m_i_sj (by omega)]; exact h1 x (by omega)) (fun j hj => by rw [m_i_sj (by omega)]; exact h2 j hj)
    refine ⟨h3, b1, b2, b3, fun b K => ?_⟩
    show F_X4_prepare_124 G (X + 44) (X + 34) b (nI k) B K _ _ _ = _
    rw [F_X4_prepare_124, if_neg (show ¬ (6 : Int32) ≤ nI q from nI_ge (b := 6) (by omega) (by omega)), u_ck hG'.1, g1, u_ob, u_ck (cab_t hC'), c_sufferingBy hC' hS hA, u_cb, i6, u_ck xk, u_nn, nI_clamp (show 6 * k + q < 2 ^ 31 by omega), if_pos rfl, u_nn, nI_1]
    exact b4 b K
/-- what the class knows of the k-th mile -/
def PlC (X : Nat) (h : AH) (v : VV) (k : Nat) : Prop := m_i h (X + 45) k = cntP v (sN v) ∧ m_i h (X + 46) k = wisP v (sN v) ∧ m_i h (X + 47) k = kv v (sL v) ∧ m_i h (X + 48) k = coldV v (v 1 10) ∧ ∀ x, x < 6 → m_i h (X + 49) (6 * k + x) = (sbV v (nI x)).1 - byW v (v 1 11) (sN v)
def STr (X a : Nat) : Prop := (X + 34 ≤ a ∧ a < X + 39) ∨ SPl X a
theorem prep_one (hC : Cab h (X + 34) t w.1) (hS : Sta w.1) (hm : (w.1 1 10).toInt < 240) (ht : X + 122 ≤ t) (hG : GP h X) {k : Nat} (hk : k < 24) : ∃ h2 w2 r, p_X12_rolls G w = some (r, w2) ∧ Cab h2 (X + 34) t w2.1 ∧ Sta w2.1 ∧ w2.1 1 10 = w.1 1 10 + 1 ∧ Fr (STr X) h h2 ∧ PlC X h2 w.1 k ∧ (∀ v' j, j < k → PlC X h v' j → PlC X h2 v' j) ∧ ∀ n self, k < n → n ≤ 24 → F_X4_prepare_2 G (X + 44) (X + 34) (nI n) self (nI k) h = self (nI (k + 1)) h2 := by
  obtain ⟨bn, -, hb2, hb3⟩ := bit_cnt hS.1
  have g0 : m_r h (X + 44) 0 = some (X + 45) := hG.r0
  -- crowds, wishes
  have hF1 : Fr (SPl X) h (m_si (m_si h (X + 45) k (cntV w.1)) (X + 46) k 0) := (Fr.si (by unfold SPl; omega)).tr (Fr.si (by unfold SPl; omega))
  have hC1 := hC.fr (st_N8 hS.1) hF1 (fun a ha => by unfold SPl at ha; omega)
  have hG1 := hG.fr hF1
  obtain ⟨ha, a1, a2, a3, a4⟩ := wish_loop (G := G) hC1 hS.1 hS.2.1 ht hG1 hk (sN w.1) 0 bN _ (Nat.zero_add _) (bN8 hS.1) Fr.rf (m_i_ss _ _ _ _) (fun _ _ => rfl)
  have hF2 : Fr (SPl X) h ha := hF1.tr (a1.wk (fun a ha => by unfold SPl; omega))
  have hC2 := hC.fr (st_N8 hS.1) hF2 (fun a ha => by unfold SPl at ha; omega)
  have hG2 := hG.fr hF2
  have e45 : m_i ha (X + 45) = m_i (m_si h (X + 45) k (cntV w.1)) (X + 45) := by rw [(a1.2.2.2 (X + 45) (by omega)).1, m_i_sb (by omega)]
  -- fixed
  obtain ⟨hb, b1, b2, b3, b4⟩ := fix_loop (G := G) hC2 hS.1 hS.2.1 ht hG2 hk (byW w.1 (w.1 1 11) (sN w.1)) 6 0 bN _ rfl (bN_gt (by decide)) Fr.rf (fun x hx => by omega) (fun _ _ => rfl)
  have hF3 : Fr (SPl X) h hb := hF2.tr (b1.wk (fun a ha => by unfold SPl; omega))
  have hC3 := hC.fr (st_N8 hS.1) hF3 (fun a ha => by unfold SPl at ha; omega)
  have hG3 := hG.fr hF3
  -- knob and cold
  have hF4 : Fr (SPl X) h (m_si hb (X + 47) k (kv w.1 (sL w.1))) := hF3.tr (Fr.si (by unfold SPl; omega))
  have hC4 := hC.fr (st_N8 hS.1) hF4 (fun a ha => by unfold SPl at ha; omega)
  have hG4 := hG.fr hF4
  have hF5 : Fr (SPl X) h (m_si (m_si hb (X + 47) k (kv w.1 (sL w.1))) (X + 48) k (coldV w.1 (w.1 1 10))) := hF4.tr (Fr.si (by unfold SPl; omega))
  have hC5 := hC.fr (st_N8 hS.1) hF5 (fun a ha => by unfold SPl at ha; omega)
  obtain ⟨h2, w2, r, c1, c2, c3, c4, c5, c6, c7, c8, c9, c10, c11, -⟩ := roll_mid (G := G) hC5 hS.1 hS.2.1 hS.2.2 hm
  have ei : ∀ a, X + 45 ≤ a → a < X + 54 → m_i h2 a = m_i (m_si (m_si hb (X + 47) k (kv w.1 (sL w.1))) (X + 48) k (coldV w.1 (w.1 1 10))) a := fun a q1 q2 => (c7.2.2.2 a (by omega)).1
  have i45 : m_i h2 (X + 45) = m_i (m_si h (X + 45) k (cntV w.1)) (X + 45) := by rw [ei _ (by omega) (by omega), m_i_sb (by omega), m_i_sb (by omega), (b1.2.2.2 (X + 45) (by omega)).1, e45]
  have i46 : m_i h2 (X + 46) = m_i ha (X + 46) := by rw [ei _ (by omega) (by omega), m_i_sb (by omega), m_i_sb (by omega), (b1.2.2.2 (X + 46) (by omega)).1]
  have i49 : m_i h2 (X + 49) = m_i hb (X + 49) := by rw [ei _ (by omega) (by omega), m_i_sb (by omega), m_i_sb (by omega)]
  have b47 : m_i hb (X + 47) = m_i h (X + 47) := by rw [(b1.2.2.2 (X + 47) (by omega)).1, (a1.2.2.2 (X + 47) (by omega)).1, m_i_sb (by omega), m_i_sb (by omega)]
  have b48 : m_i hb (X + 48) = m_i h (X + 48) := by rw [(b1.2.2.2 (X + 48) (by omega)).1, (a1.2.2.2 (X + 48) (by omega)).1, m_i_sb (by omega), m_i_sb (by omega)]
  have a49 : m_i ha (X + 49) = m_i h (X + 49) := by rw [(a1.2.2.2 (X + 49) (by omega)).1, m_i_sb (by omega), m_i_sb (by omega)]
  refine ⟨h2, w2, r, c2, c3, ⟨c4, c5, c6⟩, c11, (hF5.wk (fun a ha => Or.inr ha)).tr (c7.wk (fun a ha => Or.inl (by omega))), ⟨by rw [i45, m_i_ss]; rfl, by rw [i46]; exact a2, by rw [ei _ (by omega) (by omega), m_i_sb (by omega), m_i_ss], by rw [ei _ (by omega) (by omega), m_i_ss], fun x hx => by rw [i49]; exact b2 x hx⟩, fun v' j hj q => ⟨by rw [i45, m_i_sj (by omega)]; exact q.1, by rw [i46, a3 j (by omega), m_i_sj (by omega), m_i_sb (by omega)]; exact q.2.1, by rw [ei _ (by omega) (by omega), m_i_sb (by omega), m_i_sj (by omega), b47]; exact q.2.2.1, by rw [ei _ (by omega) (by omega), m_i_sj (by omega), m_i_sb (by omega), b48]; exact q.2.2.2.1, fun x hx => by rw [i49, b3 _ (by omega), a49]; exact q.2.2.2.2 x hx⟩, fun n self hn hn24 => ?_⟩
  have x24 : ∀ (h0 : AH) a, m_t h0 a = .inr (.int, 24) → ixb h0 a .int (nI k) = true := fun h0 a q => ixb_e q hk (by decide)
  have ck' : (nI k).toNatClampNeg = k := nI_clamp (by omega)
  rw [F_X4_prepare_2, if_neg (nI_ge hn (by omega)), if_neg (show ¬ (24 : Int32) ≤ nI k from nI_ge (b := 24) (by omega) (by omega)), u_ck hG.1, g0, u_ob, u_ck (cab_t hC), c_aboardBits hC hS.1 hS.2.1, u_cb, c_bitCount, u_cb, hb3, u_ck (x24 _ _ hG.2.2.1), u_nn, ck', m_t_si, u_ck hG.1, m_r_si, hG.r1, u_ob, u_ck (x24 _ _ (by rw [m_t_si]; exact hG.2.2.2.1)), u_nn]
  refine (a4 (nI n) _).trans ?_
  rw [u_ck hG2.1, hG2.r0, u_ob, u_ck (x24 _ _ hG2.2.2.1), u_ck (cab_t hC2), hG2.r1, u_ob, u_ck (x24 _ _ hG2.2.2.2.1), u_nn, e45, m_i_ss, cab_i3 hC2, a2]
  refine (b4 (nI n) _).trans ?_
  obtain ⟨kn, hkn, hK, hkv⟩ := cab_i5 hC3
  have hkL : (m_i hb (X + 34) 5 >>> (((2 : Int32) * w.1 1 3) &&& 31)) &&& (3 : Int32) = kv w.1 (sL w.1) := by
    have l6 := st_L6 hS.1
    rw [hK, st_L hS.1, ago_e hkn (by omega), hkv _ (by omega)]
  unfold f_X11_knobAgo
  rw [u_ck hG3.1, hG3.r2, u_ob, u_ck (cab_t hC3), cab_0 hC3, u_ob, u_ck (tr_t hC3), u_cb, tr_i3 hC3, hkL, u_ck (x24 _ _ hG3.2.2.2.2.1), u_nn, u_ck hG4.1, hG4.r3, u_ob, u_ck (cab_t hC4), cab_0 hC4, u_ob, u_ck (tr_t hC4), cab_i4 hC4, c_coldAt hC4 hS.1, u_cb, u_ck (x24 _ _ hG4.2.2.2.2.2.1), u_nn, u_ck (cab_t hC5), c1, u_cb, u_nn, nI_1]
theorem rl_some {i : Nat} {r : Int32} {y : MS} (h : p_X12_rolls G (rl G w i) = some (r, y)) : rl G w (i + 1) = y := by
  show (match p_X12_rolls G (rl G w i) with | some y => y.2 | none => rl G w i) = y
  rw [h]
theorem prep_loop (hX : GP h X) (ht : X + 122 ≤ t) {N : Nat} (hN : N ≤ 24) : ∀ (d k n : Nat) (h' : AH), k + d = N → d < n → Fr (STr X) h h' → Cab h' (X + 34) t (rl G w k).1 → Sta (rl G w k).1 → ((rl G w k).1 1 10).toInt + d ≤ 240 → (∀ j, j < k → PlC X h' (rl G w j).1 j) → ∃ h2, Fr (STr X) h h2 ∧ (∀ j, j < N → PlC X h2 (rl G w j).1 j) ∧ (∀ j, k ≤ j → j < N → Sta (rl G w j).1 ∧ ((rl G w j).1 1 10).toInt < 240 ∧ ∃ h3, Cab h3 (X + 34) t (rl G w j).1) ∧ lq1 (F_X4_prepare_2 G (X + 44) (X + 34) (nI N)) n (nI k) h' = some h2
  | 0, k, n + 1, h', e, _, hF, hC, hS, hm, hp => by
    have : k = N := by omega
    subst this
    refine ⟨h', hF, hp, fun j h1 h2 => by omega, ?_⟩
    show F_X4_prepare_2 G (X + 44) (X + 34) (nI k) _ _ _ = _
    rw [F_X4_prepare_2, if_pos (nI_le (Nat.le_refl _) (by omega))]
  | d + 1, k, n + 1, h', e, hn, hF, hC, hS, hm, hp => by
    obtain ⟨h2, w2, r, a1, a2, a3, a4, a5, a6, a7, a8⟩ := prep_one (G := G) hC hS (by omega) ht (hX.fr hF) (k := k) (by omega)
    have ew := rl_some a1
    rw [← ew] at a2 a3 a4
    have i1 : (1 : Int32).toInt = 1 := rfl
    have hm1 : ((rl G w (k + 1)).1 1 10).toInt = ((rl G w k).1 1 10).toInt + 1 := by
      rw [a4, I_add (by rw [i1]; have := (st_mile hS.1).1; omega) (by rw [i1]; omega), i1]
    obtain ⟨h3, b1, b2, b3, b4⟩ := prep_loop hX ht hN d (k + 1) n h2 (by omega) (by omega) (hF.tr a5) a2 a3 (by omega) (fun j hj => by
      by_cases z : j = k
      · subst z; exact a6
      · exact a7 _ j (by omega) (hp j (by omega)))
    refine ⟨h3, b1, b2, fun j q1 q2 => ?_, ?_⟩
    · by_cases z : j = k
      · subst z; exact ⟨hS, by omega, h', hC⟩
      · exact b3 j (by omega) q2
    · show F_X4_prepare_2 G (X + 44) (X + 34) (nI N) _ _ _ = _
      rw [a8 N _ (by omega) hN]; exact b4
end
