/-! PURE 67: what a rule asks, on both sides. -/
def WC (v : VV) (k j : Nat) : Int32 := fs (fun q a => if v 10 q = 0 then a else if wantV v q = nI j then a + 1 else a) k 0 0
def NA (v : VV) (k : Nat) : Int32 := fs (fun q a => if v 10 q = 0 then a else a + 1) k 0 0
def CX (v : VV) (k : Nat) : Int32 := fs (fun q a => if v 10 q = 0 then a else if a < v 11 q then v 11 q else a) k 0 0
def WN (v : VV) (k : Nat) : Int32 := fs (fun q a => if v 10 q = 0 then a else if v 9 q = 0 then wantV v q else a) k 0 (-1)
def MO (v : VV) (k : Nat) : Int32 := fs (fun q a => if v 10 q = 0 then a else a + if wantV v q ≤ v 1 13 then 0 else 1) k 0 0
def LE (v : VV) (k : Nat) : Int32 := fs (fun q a => if v 10 q = 0 then a else a + if v 1 13 ≤ wantV v q then 0 else 1) k 0 0
theorem WC_s (v : VV) (k j : Nat) : WC v (k + 1) j = if v 10 k = 0 then WC v k j else if wantV v k = nI j then WC v k j + 1 else WC v k j := by
  unfold WC; rw [fs_snoc, Nat.zero_add]
theorem NA_s (v : VV) (k : Nat) : NA v (k + 1) = if v 10 k = 0 then NA v k else NA v k + 1 := by
  unfold NA; rw [fs_snoc, Nat.zero_add]
theorem CX_s (v : VV) (k : Nat) : CX v (k + 1) = if v 10 k = 0 then CX v k else if CX v k < v 11 k then v 11 k else CX v k := by
  unfold CX; rw [fs_snoc, Nat.zero_add]
theorem WN_s (v : VV) (k : Nat) : WN v (k + 1) = if v 10 k = 0 then WN v k else if v 9 k = 0 then wantV v k else WN v k := by
  unfold WN; rw [fs_snoc, Nat.zero_add]
theorem MO_s (v : VV) (k : Nat) : MO v (k + 1) = if v 10 k = 0 then MO v k else MO v k + if wantV v k ≤ v 1 13 then 0 else 1 := by
  unfold MO; rw [fs_snoc, Nat.zero_add]
theorem LE_s (v : VV) (k : Nat) : LE v (k + 1) = if v 10 k = 0 then LE v k else LE v k + if v 1 13 ≤ wantV v k then 0 else 1 := by
  unfold LE; rw [fs_snoc, Nat.zero_add]
/-- a law's cells -/
def LaS (h : AH) (L : Nat) : Prop := m_t h L = .inl 2 ∧ m_r h L 0 = some (L + 1) ∧ m_r h L 1 = some (L + 2) ∧ m_r h L 3 = some (L + 3) ∧ m_t h (L + 2) = .inr (.long, 64) ∧ m_t h (L + 3) = .inr (.int, 6) ∧ ∃ n, n ≤ 400 ∧ m_t h (L + 1) = .inr (.int, n)
def DjL (L c t : Nat) : Prop := (L + 4 ≤ c ∨ c + 5 ≤ L) ∧ (L + 4 ≤ t ∨ t + 15 ≤ L)
theorem fill_e (G : GG) (a N : Nat) (x : Int32) (hN : N < 2 ^ 31) : ∀ (d k n : Nat) (h : AH), m_t h a = .inr (.int, N) → k + d = N → d < n → ∃ h2, lq1 (F_J7_fill_53178_5 G a x (nI N)) n (nI k) h = some h2 ∧ Fr (fun b => b = a) h h2 ∧ ∀ j, m_i h2 a j = if k ≤ j ∧ j < N then x else m_i h a j
  | 0, k, n + 1, h, ht, e, _ => by
    refine ⟨h, ?_, Fr.rf, fun j => by rw [if_neg (by omega)]⟩
    show F_J7_fill_53178_5 G a x (nI N) _ _ _ = _
    rw [F_J7_fill_53178_5, if_pos (nI_le (by omega) (by omega))]
  | d + 1, k, n + 1, h, ht, e, hn => by
    obtain ⟨h2, h3, h4, h5⟩ := fill_e G a N x hN d (k + 1) n (m_si h a k x) ht (by omega) (by omega)
    refine ⟨h2, ?_, (Fr.si (S := fun b => b = a) rfl).tr h4, fun j => ?_⟩
    · show F_J7_fill_53178_5 G a x (nI N) _ _ _ = _
      rw [F_J7_fill_53178_5, if_neg (nI_ge (by omega) (by omega)), u_ck (ixb_e ht (by omega) hN), u_nn, u_nn, nI_clamp (by omega), nI_1]
      exact h3
    · rw [h5]
      by_cases c1 : k + 1 ≤ j ∧ j < N
      · rw [if_pos c1, if_pos (by omega)]
      · rw [if_neg c1]
        by_cases c2 : j = k
        · subst c2; rw [if_pos (by omega), m_i_ss]
        · rw [if_neg (by omega), m_i_sj c2]
theorem c_fill (G : GG) {a N : Nat} {x : Int32} {h : AH} (hN : N ≤ 100000) (ht : m_t h a = .inr (.int, N)) : ∃ h2, f_J7_fill_53178 G a x h = some h2 ∧ Fr (fun b => b = a) h h2 ∧ ∀ j, m_i h2 a j = if j < N then x else m_i h a j := by
  obtain ⟨h2, h3, h4, h5⟩ := fill_e G a N x (by omega) N 0 bN h ht (Nat.zero_add _) (bN_gt (by omega))
  refine ⟨h2, ?_, h4, fun j => by rw [h5]; simp only [Nat.zero_le, true_and]⟩
  unfold f_J7_fill_53178
  rw [alb_e ht, u_ob, u_nn]
  rw [nI_0] at h3
  exact h3
theorem WN_e {v : VV} (hS : St v) : WN v (sN v) = if sitV v 0 = -1 then -1 else wantV v (sitV v 0).toNatClampNeg := by
  have key : ∀ k, k ≤ sN v → WN v k = match ff (fun q => decide (v 9 q = 0)) k 0 with | some q => wantV v q | none => -1 := by
    intro k
    induction k with
    | zero => intro _; rfl
    | succ k ih =>
      intro hk
      rw [WN_s, ih (by omega)]
      have e6 := ff_app (p := fun q => decide (v 9 q = 0)) (d := k) (e := 1) (k := 0)
      rw [Nat.zero_add] at e6
      rw [e6]
      have e7 : ff (fun q => decide (v 9 q = 0)) 1 k = if v 9 k = 0 then some k else none := by
        unfold ff ff
        by_cases h : v 9 k = 0 <;> simp [h]
      rw [e7]
      by_cases h9 : v 9 k = 0
      · have h10 : v 10 k = 1 := (st_P hS (q := k) (by omega)).2.2.2.2.2.2.2.2.2.1 (by rw [h9]; decide)
        rw [if_neg (by rw [h10]; decide), if_pos h9]
        cases e : ff (fun q => decide (v 9 q = 0)) k 0 with
        | none => simp [h9]
        | some j =>
          obtain ⟨h1, h2, h3, h4⟩ := ff_some e
          have h5 := of_decide_eq_true h3
          have : j = k := st_D hS (by omega) (by omega) (by rw [h5]; decide) (by rw [h5, h9])
          rw [this]
      · have : (if v 10 k = 0 then (match ff (fun q => decide (v 9 q = 0)) k 0 with | some q => wantV v q | none => -1) else if v 9 k = 0 then wantV v k else (match ff (fun q => decide (v 9 q = 0)) k 0 with | some q => wantV v q | none => -1)) = (match ff (fun q => decide (v 9 q = 0)) k 0 with | some q => wantV v q | none => -1) := by
          rw [if_neg h9]; split <;> rfl
        rw [this, if_neg h9]
        cases ff (fun q => decide (v 9 q = 0)) k 0 <;> rfl
  rw [key _ (Nat.le_refl _)]
  unfold sitV
  cases e : ff (fun q => decide (v 9 q = 0)) (sN v) 0 with
  | none => rfl
  | some j =>
    obtain ⟨h1, h2, h3, h4⟩ := ff_some e
    have := st_N8 hS
    show wantV v j = if nI j = -1 then -1 else wantV v (nI j).toNatClampNeg
    rw [if_neg (nI_m1 (by omega)), nI_clamp (by omega)]
section
variable {G : GG} {h : AH} {w : MS} {c t L : Nat} {v : VV}
def LI (L : Nat) (h : AH) (v : VV) (k : Nat) (h' : AH) : Prop := Fr (fun a => a = L ∨ a = L + 3) h h' ∧ (∀ j, j < 6 → m_i h' (L + 3) j = WC v k j) ∧ m_i h' L 4 = NA v k ∧ m_i h' L 5 = WN v k ∧ m_i h' L 6 = CX v k
theorem look_step (hC : Cab h c t v) (hS : St v) (hA : Ab v) (hL : LaS h L) (hD : DjL L c t) {k : Nat} (hq : k < sN v) {h' : AH} (hI : LI L h v k h') : ∃ h2, LI L h v (k + 1) h2 ∧ ∀ self, F_X2_lookAround_25 G L c self (nI k) h' = self (nI k + 1) h2 := by
  obtain ⟨hF, h1, h2, h3, h4⟩ := hI
  have hC0 := hC
  have hC : Cab h' c t v := hC0.fr (st_N8 hS) hF (fun a ha => by unfold DjL at hD; omega)
  have hLt : m_t h' L = .inl 2 := by rw [hF.1]; exact hL.1
  have hLr : m_r h' L 3 = some (L + 3) := by rw [hF.2.1]; exact hL.2.2.2.1
  have hLx : m_t h' (L + 3) = .inr (.int, 6) := by rw [hF.1]; exact hL.2.2.2.2.2.1
  rcases ab01 hS hq with e0 | e0
  · refine ⟨h', ⟨hF, fun j hj => by rw [WC_s, if_pos e0]; exact h1 j hj, by rw [NA_s, if_pos e0]; exact h2, by rw [WN_s, if_pos e0]; exact h3, by rw [CX_s, if_pos e0]; exact h4⟩, fun self => ?_⟩
    unfold F_X2_lookAround_25
    simp only [u_nn, u_ob, u_cb, u_cw, u_ck, on_s, on_n, cab_t hC, cab_0 hC, cab_6 hC, cab_7 hC, cab_8 hC, cab_9 hC, tr_t hC, tr_6 hC, tr_8 hC, tr_9 hC, tr_11 hC, tr_12 hC, tr_13 hC, cab_i2 hC, cab_i3 hC, cab_i4 hC, tr_i0 hC, tr_i1 hC, tr_i2 hC, tr_i3 hC, tr_i4 hC, tr_i5 hC, tr_i7 hC, tr_i10 hC, q8 hS hq, qc hS hq, cab_x1 hC hS hq, cab_x2 hC hS hq, cab_x3 hC hS hq, cab_x4 hC hS hq, cab_v1 hC hq, cab_v2 hC hq, cab_v3 hC hq, cab_v4 hC hq, tr_x1 hC hS hq, tr_rq hC hS hq, tr_tq hC hS hq, tr_q0 hC hq, tr_q1 hC hq, tr_q2 hC hq, tr_q3 hC hq, tr_q4 hC hq, tr_q6 hC hq, nle_q hS hq, if_false, c_isAboard hC hS hA hq, e0, if_true]
  · have ne0 : ¬ v 10 k = 0 := by rw [e0]; decide
    obtain ⟨j0, hj0, ej⟩ := want_5 hS hq
    let ha := m_si h' (L + 3) j0 (m_i h' (L + 3) j0 + 1)
    let hb := m_si ha L 4 (NA v k + 1)
    let hc := m_si hb L 5 (if v 9 k = 0 then wantV v k else WN v k)
    let hd := m_si hc L 6 (if CX v k < v 11 k then v 11 k else CX v k)
    have a4 : m_i ha L 4 = NA v k := by show m_i (m_si h' (L + 3) j0 _) L 4 = _; rw [m_i_sb (show L ≠ L + 3 by omega)]; exact h2
    have b5 : m_i hb L 5 = WN v k := by
      show m_i (m_si (m_si h' (L + 3) j0 _) L 4 _) L 5 = _
      rw [m_i_sj (by decide), m_i_sb (show L ≠ L + 3 by omega)]; exact h3
    have c6 : m_i hc L 6 = CX v k := by
      show m_i (m_si (m_si (m_si h' (L + 3) j0 _) L 4 _) L 5 _) L 6 = _
      rw [m_i_sj (by decide), m_i_sj (by decide), m_i_sb (show L ≠ L + 3 by omega)]; exact h4
    have hFd : Fr (fun a => a = L ∨ a = L + 3) h' hd := (((Fr.si (Or.inr rfl)).tr (Fr.si (Or.inl rfl))).tr (Fr.si (Or.inl rfl))).tr (Fr.si (Or.inl rfl))
    refine ⟨hd, ⟨hF.tr hFd, fun j hj => ?_, ?_, ?_, ?_⟩, fun self => ?_⟩
    · show m_i (m_si (m_si (m_si (m_si h' (L + 3) j0 _) L 4 _) L 5 _) L 6 _) (L + 3) j = _
      rw [m_i_sb (show L + 3 ≠ L by omega), m_i_sb (show L + 3 ≠ L by omega), m_i_sb (show L + 3 ≠ L by omega), WC_s, if_neg ne0, ej]
      by_cases e : j = j0
      · subst e; rw [m_i_ss, if_pos rfl, h1 j hj]
      · rw [m_i_sj e, if_neg (fun e2 => e ((nI_eq (by omega) (by omega)).mp e2).symm)]; exact h1 j hj
    · show m_i (m_si (m_si (m_si (m_si h' (L + 3) j0 _) L 4 _) L 5 _) L 6 _) L 4 = _
      rw [m_i_sj (by decide), m_i_sj (by decide), m_i_ss, NA_s, if_neg ne0]
    · show m_i (m_si (m_si (m_si (m_si h' (L + 3) j0 _) L 4 _) L 5 _) L 6 _) L 5 = _
      rw [m_i_sj (by decide), m_i_ss, WN_s, if_neg ne0]
    · show m_i (m_si (m_si (m_si (m_si h' (L + 3) j0 _) L 4 _) L 5 _) L 6 _) L 6 = _
      rw [m_i_ss, CX_s, if_neg ne0]
    · have hx : ixb h' (L + 3) .int (nI j0) = true := ixb_e hLx (by omega) (by decide)
      have cv : ∀ x y : Int32, m_i (m_si (m_si h' (L + 3) j0 x) L 4 y) (c + 1) k = v 9 k := fun x y => by
        rw [m_i_sb (by unfold DjL at hD; omega), m_i_sb (by unfold DjL at hD; omega), cab_v1 hC hq]
      have cv2 : ∀ x y z : Int32, m_i (m_si (m_si (m_si h' (L + 3) j0 x) L 4 y) L 5 z) (c + 2) k = v 11 k := fun x y z => by
        rw [m_i_sb (by unfold DjL at hD; omega), m_i_sb (by unfold DjL at hD; omega), m_i_sb (by unfold DjL at hD; omega), cab_v2 hC hq]
      rw [F_X2_lookAround_25]
      simp only [u_nn, u_ob, u_cb, u_cw, u_ck, on_s, on_n, cab_t hC, cab_0 hC, cab_6 hC, cab_7 hC, cab_8 hC, cab_9 hC, tr_t hC, tr_6 hC, tr_8 hC, tr_9 hC, tr_11 hC, tr_12 hC, tr_13 hC, cab_i2 hC, cab_i3 hC, cab_i4 hC, tr_i0 hC, tr_i1 hC, tr_i2 hC, tr_i3 hC, tr_i4 hC, tr_i5 hC, tr_i7 hC, tr_i10 hC, q8 hS hq, qc hS hq, cab_x1 hC hS hq, cab_x2 hC hS hq, cab_x3 hC hS hq, cab_x4 hC hS hq, cab_v1 hC hq, cab_v2 hC hq, cab_v3 hC hq, cab_v4 hC hq, tr_x1 hC hS hq, tr_rq hC hS hq, tr_tq hC hS hq, tr_q0 hC hq, tr_q1 hC hq, tr_q2 hC hq, tr_q3 hC hq, tr_q4 hC hq, tr_q6 hC hq, m_t_si, m_r_si, m_l_si, m_n_si, ixb_si, m_t_sl, m_r_sl, m_i_sl, m_n_sl, ixb_sl, m_t_sr, m_i_sr, m_l_sr, m_n_sr, ixb_sr, m_t_sa, m_r_sa, m_l_sa, m_n_sa, ixb_sa, alb_si, alb_sr, alb_sa, nle_q hS hq, if_false, c_isAboard hC hS hA hq, ne0, c_wantOf hC hS hq, hLt, hLr, ej, hx, nI_clamp (show j0 < 2 ^ 31 by omega)]
      rw [show m_i (m_si h' (L + 3) j0 (m_i h' (L + 3) j0 + 1)) L 4 = NA v k from a4]
      simp only [cv, cv2]
      have b5' : m_i (m_si (m_si h' (L + 3) j0 (m_i h' (L + 3) j0 + 1)) L 4 (NA v k + 1)) L 5 = WN v k := b5
      have c6' : ∀ z : Int32, m_i (m_si (m_si (m_si h' (L + 3) j0 (m_i h' (L + 3) j0 + 1)) L 4 (NA v k + 1)) L 5 z) L 6 = CX v k := fun z => by
        rw [m_i_sj (by decide), m_i_sj (by decide), m_i_sb (show L ≠ L + 3 by omega)]; exact h4
      simp only [b5', c6']
      show _ = self _ (m_si (m_si (m_si (m_si h' (L + 3) j0 (m_i h' (L + 3) j0 + 1)) L 4 (NA v k + 1)) L 5 (if v 9 k = 0 then wantV v k else WN v k)) L 6 (if CX v k < v 11 k then v 11 k else CX v k))
      by_cases e9 : v 9 k = 0
      · simp only [e9, if_true, ej]
      · simp only [e9, if_false]
theorem look_loop (hC : Cab h c t v) (hS : St v) (hA : Ab v) (hL : LaS h L) (hD : DjL L c t) : ∀ (d k n : Nat) (h' : AH), k + d = sN v → d < n → LI L h v k h' → ∃ h2, lq1 (F_X2_lookAround_25 G L c) n (nI k) h' = some h2 ∧ LI L h v (sN v) h2
  | 0, k, n + 1, h', e, _, hI => by
    have ek : k = sN v := by omega
    have hC0 := hC
    have hC : Cab h' c t v := hC0.fr (st_N8 hS) hI.1 (fun a ha => by unfold DjL at hD; omega)
    refine ⟨h', ?_, by rw [← ek]; exact hI⟩
    show F_X2_lookAround_25 G L c _ _ _ = _
    rw [ek, F_X2_lookAround_25]
    simp only [u_nn, u_ob, u_cb, u_cw, u_ck, on_s, on_n, cab_t hC, cab_0 hC, cab_6 hC, cab_7 hC, cab_8 hC, cab_9 hC, tr_t hC, tr_6 hC, tr_8 hC, tr_9 hC, tr_11 hC, tr_12 hC, tr_13 hC, cab_i2 hC, cab_i3 hC, cab_i4 hC, tr_i0 hC, tr_i1 hC, tr_i2 hC, tr_i3 hC, tr_i4 hC, tr_i5 hC, tr_i7 hC, tr_i10 hC, nle_N hS, if_true]
  | d + 1, k, n + 1, h', e, hn, hI => by
    obtain ⟨h2, hI2, f1⟩ := look_step (G := G) hC hS hA hL hD (k := k) (by omega) hI
    obtain ⟨h3, g1, g2⟩ := look_loop hC hS hA hL hD d (k + 1) n h2 (by omega) (by omega) hI2
    refine ⟨h3, ?_, g2⟩
    show F_X2_lookAround_25 G L c _ _ _ = _
    rw [f1, nI_1]; exact g1
theorem c_lookAround (hC : Cab h c t v) (hS : St v) (hA : Ab v) (hL : LaS h L) (hD : DjL L c t) : ∃ h2, f_X2_lookAround G L c h = some h2 ∧ LI L h v (sN v) h2 := by
  obtain ⟨ha, f1, f2, f3⟩ := c_fill G (x := 0) (h := h) (a := L + 3) (N := 6) (by decide) hL.2.2.2.2.2.1
  let hd := m_si (m_si (m_si ha L 4 0) L 5 (-1)) L 6 0
  have hFd : Fr (fun a => a = L ∨ a = L + 3) h hd := (((f2.wk (T := fun a => a = L ∨ a = L + 3) (fun a e => Or.inr e)).tr (Fr.si (Or.inl rfl))).tr (Fr.si (Or.inl rfl))).tr (Fr.si (Or.inl rfl))
  have hI : LI L h v 0 hd := by
    refine ⟨hFd, fun j hj => ?_, ?_, ?_, ?_⟩
    · show m_i (m_si (m_si (m_si ha L 4 0) L 5 (-1)) L 6 0) (L + 3) j = _
      rw [m_i_sb (show L + 3 ≠ L by omega), m_i_sb (show L + 3 ≠ L by omega), m_i_sb (show L + 3 ≠ L by omega), f3, if_pos hj]; rfl
    · show m_i (m_si (m_si (m_si ha L 4 0) L 5 (-1)) L 6 0) L 4 = _
      rw [m_i_sj (by decide), m_i_sj (by decide), m_i_ss]; rfl
    · show m_i (m_si (m_si (m_si ha L 4 0) L 5 (-1)) L 6 0) L 5 = _
      rw [m_i_sj (by decide), m_i_ss]; rfl
    · show m_i (m_si (m_si (m_si ha L 4 0) L 5 (-1)) L 6 0) L 6 = _
      rw [m_i_ss]; rfl
  obtain ⟨h2, g1, g2⟩ := look_loop (G := G) hC hS hA hL hD (sN v) 0 bN hd (Nat.zero_add _) (bN8 hS) hI
  refine ⟨h2, ?_, g2⟩
  unfold f_X2_lookAround
  have e1 : m_t ha L = .inl 2 := by rw [f2.1]; exact hL.1
  rw [u_ck hL.1, hL.2.2.2.1, u_ob, f1, u_ob, u_ck e1, u_nn, u_nn, u_nn]
  rw [nI_0] at g1
  exact g1
def AI (w : MS) (k : Nat) (w' : MS) : Prop := Fw (fun r => r = 52) w w' ∧ w'.2 = w.2 ∧ ∀ j, j < 6 → w'.1 52 j = WC w.1 k j
theorem ask_step (hS : St w.1) {k : Nat} (hq : k < sN w.1) {w' : MS} (hI : AI w k w') : ∃ w2, AI w (k + 1) w2 ∧ ∀ self K, P_X12_asks_36 G K self (NA w.1 k) (MO w.1 k) (LE w.1 k) (CX w.1 k) (nI k) w' = self (NA w.1 (k + 1)) (MO w.1 (k + 1)) (LE w.1 (k + 1)) (CX w.1 (k + 1)) (nI k + 1) w2 := by
  obtain ⟨hW, hl, h1⟩ := hI
  have hS' : St w'.1 := hS.cg (fun r h1 h2 _ => hW r (by omega))
  have e1 : w'.1 1 = w.1 1 := hW 1 (by decide)
  have e10 : w'.1 10 = w.1 10 := hW 10 (by decide)
  have e11 : w'.1 11 = w.1 11 := hW 11 (by decide)
  have en : sN w'.1 = sN w.1 := by unfold sN; rw [e1]
  have hq' : k < sN w'.1 := by rw [en]; exact hq
  have ew : wantV w'.1 k = wantV w.1 k := wantV_cg (fun r hr => hW r (by omega))
  rcases ab01 hS hq with e0 | e0
  · refine ⟨w', ⟨hW, hl, fun j hj => by rw [WC_s, if_pos e0]; exact h1 j hj⟩, fun self K => ?_⟩
    rw [P_X12_asks_36, NA_s, MO_s, LE_s, CX_s]
    simp only [u_nn, u_ob, u_cb, u_cw, u_ck, on_s, on_n, ix_1_0, ix_7_0, ix_10_0, ix_10_1, ix_10_2, ix_10_3, ix_10_4, ix_10_5, ix_10_6, ix_10_7, ix_10_8, ix_10_9, ix_13_0, ix_13_1, ix_13_2, ix_13_3, ix_13_4, ix_13_5, ix_13_6, ix_13_7, ix_13_8, ix_13_9, ix_13_10, ix_13_11, ix_13_12, ix_17_0, ix_17_1, ix_17_2, ix_17_3, ix_17_4, ix_17_6, ix_17_7, ix_17_8, ix_17_9, ix_17_10, ix_17_11, ix_17_12, ix_17_13, ix_17_14, ix_17_15, ix_17_16, ix_256_0, ix_300_0, tn_0, tn_1, tn_2, tn_3, tn_4, tn_5, tn_6, tn_7, tn_8, tn_9, tn_10, tn_11, tn_12, tn_13, tn_14, tn_15, tn_16, tn_366, nle_q hS' hq', if_false, p_rides hS' hq', e10, e0, if_true]
  · have ne0 : ¬ w.1 10 k = 0 := by rw [e0]; decide
    obtain ⟨j0, hj0, ej⟩ := want_5 hS hq
    refine ⟨w_si w' 52 j0 (w'.1 52 j0 + 1), ⟨hW.tr (Fw.si rfl), hl, fun j hj => ?_⟩, fun self K => ?_⟩
    · rw [WC_s, if_neg ne0, ej]
      by_cases e : j = j0
      · subst e; rw [w_si_s, if_pos rfl, h1 j hj]
      · rw [w_si_j e, if_neg (fun e2 => e ((nI_eq (by omega) (by omega)).mp e2).symm)]; exact h1 j hj
    · have hx : ixn 6 (nI j0) = true := u_ixn (by omega) (by decide)
      have r1 : (w_si w' 52 j0 (w'.1 52 j0 + 1)).1 1 = w.1 1 := by rw [w_si_r (by decide), e1]
      have r11 : (w_si w' 52 j0 (w'.1 52 j0 + 1)).1 11 = w.1 11 := by rw [w_si_r (by decide), e11]
      rw [P_X12_asks_36, NA_s, MO_s, LE_s, CX_s]
      simp only [u_nn, u_ob, u_cb, u_cw, u_ck, on_s, on_n, ix_1_0, ix_7_0, ix_10_0, ix_10_1, ix_10_2, ix_10_3, ix_10_4, ix_10_5, ix_10_6, ix_10_7, ix_10_8, ix_10_9, ix_13_0, ix_13_1, ix_13_2, ix_13_3, ix_13_4, ix_13_5, ix_13_6, ix_13_7, ix_13_8, ix_13_9, ix_13_10, ix_13_11, ix_13_12, ix_17_0, ix_17_1, ix_17_2, ix_17_3, ix_17_4, ix_17_6, ix_17_7, ix_17_8, ix_17_9, ix_17_10, ix_17_11, ix_17_12, ix_17_13, ix_17_14, ix_17_15, ix_17_16, ix_256_0, ix_300_0, tn_0, tn_1, tn_2, tn_3, tn_4, tn_5, tn_6, tn_7, tn_8, tn_9, tn_10, tn_11, tn_12, tn_13, tn_14, tn_15, tn_16, tn_366, q8 hS' hq', qc hS' hq', nle_q hS' hq', if_false, p_rides hS' hq', e10, ne0, p_wantOf hS' hq', ew, ej, hx, nI_clamp (show j0 < 2 ^ 31 by omega), r1, r11, if_nlt]
      by_cases g1 : nI j0 ≤ w.1 1 13
      · by_cases g2 : w.1 1 13 ≤ nI j0
        · by_cases g3 : w.1 11 k ≤ CX w.1 k <;> simp only [g1, g2, g3, if_true, if_false]
        · by_cases g3 : w.1 11 k ≤ CX w.1 k <;> simp only [g1, g2, g3, if_true, if_false]
      · by_cases g2 : w.1 1 13 ≤ nI j0
        · by_cases g3 : w.1 11 k ≤ CX w.1 k <;> simp only [g1, g2, g3, if_true, if_false]
        · by_cases g3 : w.1 11 k ≤ CX w.1 k <;> simp only [g1, g2, g3, if_true, if_false]
theorem ask_loop (hS : St w.1) : ∀ (d k n : Nat) (w' : MS), k + d = sN w.1 → d < n → AI w k w' → ∃ w2, AI w (sN w.1) w2 ∧ ∀ K, lw5 (P_X12_asks_36 G K) n (NA w.1 k) (MO w.1 k) (LE w.1 k) (CX w.1 k) (nI k) w' = K (NA w.1 (sN w.1)) (MO w.1 (sN w.1)) (LE w.1 (sN w.1)) (CX w.1 (sN w.1)) w2
  | 0, k, n + 1, w', e, _, hI => by
    have ek : k = sN w.1 := by omega
    have hS' : St w'.1 := hS.cg (fun r h1 h2 _ => hI.1 r (by omega))
    have hN := nle_N hS'
    have en : sN w'.1 = sN w.1 := by unfold sN; rw [hI.1 1 (by decide)]
    rw [en] at hN
    refine ⟨w', by rw [← ek]; exact hI, fun K => ?_⟩
    show P_X12_asks_36 G K _ _ _ _ _ _ _ = _
    rw [ek, P_X12_asks_36]
    simp only [u_nn, u_ob, u_cb, u_cw, u_ck, on_s, on_n, ix_1_0, ix_7_0, ix_10_0, ix_10_1, ix_10_2, ix_10_3, ix_10_4, ix_10_5, ix_10_6, ix_10_7, ix_10_8, ix_10_9, ix_13_0, ix_13_1, ix_13_2, ix_13_3, ix_13_4, ix_13_5, ix_13_6, ix_13_7, ix_13_8, ix_13_9, ix_13_10, ix_13_11, ix_13_12, ix_17_0, ix_17_1, ix_17_2, ix_17_3, ix_17_4, ix_17_6, ix_17_7, ix_17_8, ix_17_9, ix_17_10, ix_17_11, ix_17_12, ix_17_13, ix_17_14, ix_17_15, ix_17_16, ix_256_0, ix_300_0, tn_0, tn_1, tn_2, tn_3, tn_4, tn_5, tn_6, tn_7, tn_8, tn_9, tn_10, tn_11, tn_12, tn_13, tn_14, tn_15, tn_16, tn_366, hN, if_true]
  | d + 1, k, n + 1, w', e, hn, hI => by
    obtain ⟨w2, hI2, f1⟩ := ask_step (G := G) hS (k := k) (by omega) hI
    obtain ⟨w3, g1, g2⟩ := ask_loop hS d (k + 1) n w2 (by omega) (by omega) hI2
    refine ⟨w3, g1, fun K => ?_⟩
    show P_X12_asks_36 G K _ _ _ _ _ _ _ = _
    rw [f1, nI_1]; exact g2 K
theorem ask_zero (G : GG) (a b c' d' : Int32) (K : MS → Option MS) : ∀ (d k n : Nat) (w : MS), k + d = 6 → d < n → ∃ w2, lw1 (P_X12_asks_12 G a b c' d' K) n (nI k) w = K w2 ∧ Fw (fun r => r = 52) w w2 ∧ w2.2 = w.2 ∧ ∀ j, w2.1 52 j = if k ≤ j ∧ j < 6 then 0 else w.1 52 j
  | 0, k, n + 1, w, e, _ => by
    refine ⟨w, ?_, Fw.rf, rfl, fun j => by rw [if_neg (by omega)]⟩
    show P_X12_asks_12 G a b c' d' K _ _ _ = _
    rw [P_X12_asks_12, if_pos (show (6 : Int32) ≤ nI k from nI_le (a := 6) (by omega) (by omega))]
  | d + 1, k, n + 1, w, e, hn => by
    obtain ⟨w2, f1, f2, f3, f4⟩ := ask_zero G a b c' d' K d (k + 1) n (w_si w 52 k 0) (by omega) (by omega)
    refine ⟨w2, ?_, (Fw.si (S := fun r => r = 52) rfl).tr f2, f3, fun j => ?_⟩
    · show P_X12_asks_12 G a b c' d' K _ _ _ = _
      rw [P_X12_asks_12, if_neg (show ¬ (6 : Int32) ≤ nI k from nI_ge (b := 6) (by omega) (by omega)), u_ck (u_ixn (by omega) (by decide)), u_nn, u_nn, nI_clamp (by omega), nI_1]
      exact f1
    · rw [f4]
      by_cases c1 : k + 1 ≤ j ∧ j < 6
      · rw [if_pos c1, if_pos (by omega)]
      · rw [if_neg c1]
        by_cases c2 : j = k
        · subst c2; rw [if_pos (by omega), w_si_s]
        · rw [if_neg (by omega), w_si_j c2]
end
