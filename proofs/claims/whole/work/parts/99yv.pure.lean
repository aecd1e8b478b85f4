/-! PURE 99yv: the law's loop. -/
section
variable {G : GG} {X L p : Nat} {h : AH} {xs : Nat → Int32} {self : Int32 → AH → Option (Int32 × AH)}
theorem ix_s (hp : p + 6 ≤ L) (hL : L ≤ 3072) {i : Nat} (hi : i < 6) : ¬ (nI p + nI i < 0 ∨ L ≤ (nI p + nI i).toNatClampNeg) := by
  rw [nI_add]
  rintro (q | q)
  · exact nI_nlt (b := 0) (Nat.zero_le _) (by omega) q
  · rw [nI_clamp (by omega)] at q; omega
theorem n_6 : nI p + 6 = nI (p + 6) := nI_add p 6
theorem ix_1 (hp : p + 6 ≤ L) (hL : L ≤ 3072) : ¬ (nI p + (1 : Int32) < 0 ∨ L ≤ (nI p + (1 : Int32)).toNatClampNeg) := ix_s hp hL (i := 1) (by decide)
theorem ix_2 (hp : p + 6 ≤ L) (hL : L ≤ 3072) : ¬ (nI p + (2 : Int32) < 0 ∨ L ≤ (nI p + (2 : Int32)).toNatClampNeg) := ix_s hp hL (i := 2) (by decide)
theorem ix_3 (hp : p + 6 ≤ L) (hL : L ≤ 3072) : ¬ (nI p + (3 : Int32) < 0 ∨ L ≤ (nI p + (3 : Int32)).toNatClampNeg) := ix_s hp hL (i := 3) (by decide)
theorem ix_4 (hp : p + 6 ≤ L) (hL : L ≤ 3072) : ¬ (nI p + (4 : Int32) < 0 ∨ L ≤ (nI p + (4 : Int32)).toNatClampNeg) := ix_s hp hL (i := 4) (by decide)
theorem ix_5 (hp : p + 6 ≤ L) (hL : L ≤ 3072) : ¬ (nI p + (5 : Int32) < 0 ∨ L ≤ (nI p + (5 : Int32)).toNatClampNeg) := ix_s hp hL (i := 5) (by decide)
theorem g_case0 (hG : GI G) (hI : Inv X h) (hp : p + 6 ≤ L) (hL : L ≤ 3072) : ∃ h'', L_case0 G L xs X (X + 59) self (nI p) h = self (nI (p + 6)) h'' ∧ Inv X h'' := by
  obtain ⟨r, h', h'', e1, t1, e2, t2, hi⟩ := step_go (call_feed (G := G) (X := X) (xs (nI p + (1 : Int32)).toNatClampNeg) (xs (nI p + (2 : Int32)).toNatClampNeg) (xs (nI p + (3 : Int32)).toNatClampNeg) (xs (nI p + (4 : Int32)).toNatClampNeg) (xs (nI p + (5 : Int32)).toNatClampNeg)) hI
  refine ⟨h'', ?_, hi⟩
  unfold L_case0
  rw [u_ck (ix_1 hp hL), u_ck (ix_2 hp hL), u_ck (ix_3 hp hL), u_ck (ix_4 hp hL), u_ck (ix_5 hp hL), u_ck t2, e1, u_cb, u_ck (ix_1 hp hL), u_ck (ix_2 hp hL), u_ck (ix_3 hp hL), u_ck (ix_4 hp hL), u_ck (ix_5 hp hL), u_ck t1, e2, u_cb, if_pos rfl, u_nn, n_6]
theorem g_case1 (hG : GI G) (hI : Inv X h) (hp : p + 6 ≤ L) (hL : L ≤ 3072) : ∃ h'', L_case1 G L xs X (X + 59) self (nI p) h = self (nI (p + 6)) h'' ∧ Inv X h'' := by
  obtain ⟨r, h', h'', e1, t1, e2, t2, hi⟩ := step_go (call_end (G := G) (X := X) (xs (nI p + (1 : Int32)).toNatClampNeg)) hI
  refine ⟨h'', ?_, hi⟩
  unfold L_case1
  rw [u_ck (ix_1 hp hL), u_ck t2, e1, u_cb, u_ck (ix_1 hp hL), u_ck t1, e2, u_cb, if_pos rfl, u_nn, n_6]
theorem g_case2 (hG : GI G) (hI : Inv X h) (hp : p + 6 ≤ L) (hL : L ≤ 3072) : ∃ h'', L_case2 G L xs X (X + 59) self (nI p) h = self (nI (p + 6)) h'' ∧ Inv X h'' := by
  obtain ⟨r, h', h'', e1, t1, e2, t2, hi⟩ := step_go (call_train (G := G) (X := X) hG) hI
  refine ⟨h'', ?_, hi⟩
  unfold L_case2
  rw [u_ck t2, e1, u_cb, u_ck t1, e2, u_cb, if_pos rfl, u_nn, n_6]
theorem g_case3 (hG : GI G) (hI : Inv X h) (hp : p + 6 ≤ L) (hL : L ≤ 3072) : ∃ h'', L_case3 G L xs X (X + 59) self (nI p) h = self (nI (p + 6)) h'' ∧ Inv X h'' := by
  obtain ⟨r, h', h'', e1, t1, e2, t2, hi⟩ := step_go (call_rule (G := G) (X := X) hG) hI
  refine ⟨h'', ?_, hi⟩
  unfold L_case3
  rw [u_ck t2, e1, u_cb, u_ck t1, e2, u_cb, if_pos rfl, u_nn, n_6]
theorem g_case4 (hG : GI G) (hI : Inv X h) (hp : p + 6 ≤ L) (hL : L ≤ 3072) : ∃ h'', L_case4 G L xs X (X + 59) self (nI p) h = self (nI (p + 6)) h'' ∧ Inv X h'' := by
  obtain ⟨r, h', h'', e1, t1, e2, t2, hi⟩ := step_go (call_force (G := G) (X := X) (xs (nI p + (1 : Int32)).toNatClampNeg)) hI
  refine ⟨h'', ?_, hi⟩
  unfold L_case4
  rw [u_ck (ix_1 hp hL), u_ck t2, e1, u_cb, u_ck (ix_1 hp hL), u_ck t1, e2, u_cb, if_pos rfl, u_nn, n_6]
theorem g_case5 (hG : GI G) (hI : Inv X h) (hp : p + 6 ≤ L) (hL : L ≤ 3072) : ∃ h'', L_case5 G L xs X (X + 59) self (nI p) h = self (nI (p + 6)) h'' ∧ Inv X h'' := by
  obtain ⟨r, h', h'', e1, t1, e2, t2, hi⟩ := step_go (call_person (G := G) (X := X) (xs (nI p + (1 : Int32)).toNatClampNeg) (xs (nI p + (2 : Int32)).toNatClampNeg)) hI
  refine ⟨h'', ?_, hi⟩
  unfold L_case5
  rw [u_ck (ix_1 hp hL), u_ck (ix_2 hp hL), u_ck t2, e1, u_cb, u_ck (ix_1 hp hL), u_ck (ix_2 hp hL), u_ck t1, e2, u_cb, if_pos rfl, u_nn, n_6]
theorem g_case6 (hG : GI G) (hI : Inv X h) (hp : p + 6 ≤ L) (hL : L ≤ 3072) : ∃ h'', L_case6 G L xs X (X + 59) self (nI p) h = self (nI (p + 6)) h'' ∧ Inv X h'' := by
  obtain ⟨r, h', h'', e1, t1, e2, t2, hi⟩ := step_go (call_air (G := G) (X := X) (xs (nI p + (1 : Int32)).toNatClampNeg) (xs (nI p + (2 : Int32)).toNatClampNeg)) hI
  refine ⟨h'', ?_, hi⟩
  unfold L_case6
  rw [u_ck (ix_1 hp hL), u_ck (ix_2 hp hL), u_ck t2, e1, u_cb, u_ck (ix_1 hp hL), u_ck (ix_2 hp hL), u_ck t1, e2, u_cb, if_pos rfl, u_nn, n_6]
theorem g_case7 (hG : GI G) (hI : Inv X h) (hp : p + 6 ≤ L) (hL : L ≤ 3072) : ∃ h'', L_case7 G L xs X (X + 59) self (nI p) h = self (nI (p + 6)) h'' ∧ Inv X h'' := by
  obtain ⟨r, h', h'', e1, t1, e2, t2, hi⟩ := step_go (call_seat (G := G) (X := X) (xs (nI p + (1 : Int32)).toNatClampNeg)) hI
  refine ⟨h'', ?_, hi⟩
  unfold L_case7
  rw [u_ck (ix_1 hp hL), u_ck t2, e1, u_cb, u_ck (ix_1 hp hL), u_ck t1, e2, u_cb, if_pos rfl, u_nn, n_6]
theorem g_case8 (hG : GI G) (hI : Inv X h) (hp : p + 6 ≤ L) (hL : L ≤ 3072) : ∃ h'', L_case8 G L xs X (X + 59) self (nI p) h = self (nI (p + 6)) h'' ∧ Inv X h'' := by
  obtain ⟨r, h', h'', e1, t1, e2, t2, hi⟩ := step_go (call_stretch (G := G) (X := X) (xs (nI p + (1 : Int32)).toNatClampNeg) (xs (nI p + (2 : Int32)).toNatClampNeg)) hI
  refine ⟨h'', ?_, hi⟩
  unfold L_case8
  rw [u_ck (ix_1 hp hL), u_ck (ix_2 hp hL), u_ck t2, e1, u_cb, u_ck (ix_1 hp hL), u_ck (ix_2 hp hL), u_ck t1, e2, u_cb, if_pos rfl, u_nn, n_6]
theorem g_case9 (hG : GI G) (hI : Inv X h) (hp : p + 6 ≤ L) (hL : L ≤ 3072) : ∃ h'', L_case9 G L xs X (X + 59) self (nI p) h = self (nI (p + 6)) h'' ∧ Inv X h'' := by
  obtain ⟨r, h', h'', e1, t1, e2, t2, hi⟩ := step_go (call_mile (G := G) (X := X)) hI
  refine ⟨h'', ?_, hi⟩
  unfold L_case9
  rw [u_ck t2, e1, u_cb, u_ck t1, e2, u_cb, if_pos rfl, u_nn, n_6]
theorem g_case10 (hG : GI G) (hI : Inv X h) (hp : p + 6 ≤ L) (hL : L ≤ 3072) : ∃ h'', L_case10 G L xs X (X + 59) self (nI p) h = self (nI (p + 6)) h'' ∧ Inv X h'' := by
  obtain ⟨r, h', h'', e1, t1, e2, t2, hi⟩ := step_go (call_pull (G := G) (X := X) (xs (nI p + (1 : Int32)).toNatClampNeg)) hI
  refine ⟨h'', ?_, hi⟩
  unfold L_case10
  rw [u_ck (ix_1 hp hL), u_ck t2, e1, u_cb, u_ck (ix_1 hp hL), u_ck t1, e2, u_cb, if_pos rfl, u_nn, n_6]
theorem g_case11 (hG : GI G) (hI : Inv X h) (hp : p + 6 ≤ L) (hL : L ≤ 3072) : ∃ h'', L_case11 G L xs X (X + 59) self (nI p) h = self (nI (p + 6)) h'' ∧ Inv X h'' := by
  obtain ⟨r, h', h'', e1, t1, e2, t2, hi⟩ := step_go (call_turn (G := G) (X := X) (xs (nI p + (1 : Int32)).toNatClampNeg)) hI
  refine ⟨h'', ?_, hi⟩
  unfold L_case11
  rw [u_ck (ix_1 hp hL), u_ck t2, e1, u_cb, u_ck (ix_1 hp hL), u_ck t1, e2, u_cb, if_pos rfl, u_nn, n_6]
theorem g_case12 (hG : GI G) (hI : Inv X h) (hp : p + 6 ≤ L) (hL : L ≤ 3072) : ∃ h'', L_case12 G L xs X (X + 59) self (nI p) h = self (nI (p + 6)) h'' ∧ Inv X h'' := by
  obtain ⟨r, h', h'', e1, t1, e2, t2, hi⟩ := step_go (call_seats (G := G) (X := X) (xs (nI p + (1 : Int32)).toNatClampNeg) (xs (nI p + (2 : Int32)).toNatClampNeg)) hI
  refine ⟨h'', ?_, hi⟩
  unfold L_case12
  rw [u_ck (ix_1 hp hL), u_ck (ix_2 hp hL), u_ck t2, e1, u_cb, u_ck (ix_1 hp hL), u_ck (ix_2 hp hL), u_ck t1, e2, u_cb, if_pos rfl, u_nn, n_6]
theorem g_case13 (hG : GI G) (hI : Inv X h) (hp : p + 6 ≤ L) (hL : L ≤ 3072) : ∃ h'', L_case13 G L xs X (X + 59) self (nI p) h = self (nI (p + 6)) h'' ∧ Inv X h'' := by
  obtain ⟨r, h', h'', e1, t1, e2, t2, hi⟩ := step_go (call_say (G := G) (X := X) (xs (nI p + (1 : Int32)).toNatClampNeg) (xs (nI p + (2 : Int32)).toNatClampNeg)) hI
  refine ⟨h'', ?_, hi⟩
  unfold L_case13
  rw [u_ck (ix_1 hp hL), u_ck (ix_2 hp hL), u_ck t2, e1, u_cb, u_ck (ix_1 hp hL), u_ck (ix_2 hp hL), u_ck t1, e2, u_cb, if_pos rfl, u_nn, n_6]
theorem g_case14 (hG : GI G) (hI : Inv X h) (hp : p + 6 ≤ L) (hL : L ≤ 3072) : ∃ h'', L_case14 G L xs X (X + 59) self (nI p) h = self (nI (p + 6)) h'' ∧ Inv X h'' := by
  obtain ⟨r, h', h'', e1, t1, e2, t2, hi⟩ := step_go (call_undo (G := G) (X := X)) hI
  refine ⟨h'', ?_, hi⟩
  unfold L_case14
  rw [u_ck t2, e1, u_cb, u_ck t1, e2, u_cb, if_pos rfl, u_nn, n_6]
theorem g_case15 (hG : GI G) (hI : Inv X h) (hp : p + 6 ≤ L) (hL : L ≤ 3072) : ∃ h'', L_case15 G L xs X (X + 59) self (nI p) h = self (nI (p + 6)) h'' ∧ Inv X h'' := by
  obtain ⟨r, h', h'', e1, t1, e2, t2, hi⟩ := step_go (call_ahead (G := G) (X := X) (xs (nI p + (1 : Int32)).toNatClampNeg) (xs (nI p + (2 : Int32)).toNatClampNeg)) hI
  refine ⟨h'', ?_, hi⟩
  unfold L_case15
  rw [u_ck (ix_1 hp hL), u_ck (ix_2 hp hL), u_ck t2, e1, u_cb, u_ck (ix_1 hp hL), u_ck (ix_2 hp hL), u_ck t1, e2, u_cb, if_pos rfl, u_nn, n_6]
theorem g_case16 (hG : GI G) (hI : Inv X h) (hp : p + 6 ≤ L) (hL : L ≤ 3072) : ∃ h'', L_case16 G L xs X (X + 59) self (nI p) h = self (nI (p + 6)) h'' ∧ Inv X h'' := by
  by_cases z : xs (nI p + (1 : Int32)).toNatClampNeg = 0
  · obtain ⟨r, h', h'', e1, t1, e2, t2, hi⟩ := step_go (call_which (G := G) (X := X) 0 (xs (nI p + (2 : Int32)).toNatClampNeg)) hI
    refine ⟨h'', ?_, hi⟩
    unfold L_case16
    rw [u_ck (ix_1 hp hL), u_nn, if_pos z]
    dsimp only
    rw [u_ck (ix_2 hp hL), u_ck t2, e1, u_cb, u_ck (ix_1 hp hL), u_nn, if_pos z]
    dsimp only
    rw [u_ck (ix_2 hp hL), u_ck t1, e2, u_cb, if_pos rfl, u_nn, n_6]
  · obtain ⟨r, h', h'', e1, t1, e2, t2, hi⟩ := step_go (call_which (G := G) (X := X) 1 (xs (nI p + (2 : Int32)).toNatClampNeg)) hI
    refine ⟨h'', ?_, hi⟩
    unfold L_case16
    rw [u_ck (ix_1 hp hL), u_nn, if_neg z]
    dsimp only
    rw [u_ck (ix_2 hp hL), u_ck t2, e1, u_cb, u_ck (ix_1 hp hL), u_nn, if_neg z]
    dsimp only
    rw [u_ck (ix_2 hp hL), u_ck t1, e2, u_cb, if_pos rfl, u_nn, n_6]
theorem g_case17 (hG : GI G) (hI : Inv X h) (hp : p + 6 ≤ L) (hL : L ≤ 3072) : ∃ h'', L_case17 G L xs X (X + 59) self (nI p) h = self (nI (p + 6)) h'' ∧ Inv X h'' := by
  by_cases z : xs (nI p + (1 : Int32)).toNatClampNeg = 0
  · obtain ⟨r, h', h'', e1, t1, e2, t2, hi⟩ := step_go (call_sit (G := G) (X := X) 0 (xs (nI p + (2 : Int32)).toNatClampNeg)) hI
    refine ⟨h'', ?_, hi⟩
    unfold L_case17
    rw [u_ck (ix_1 hp hL), u_nn, if_pos z]
    dsimp only
    rw [u_ck (ix_2 hp hL), u_ck t2, e1, u_cb, u_ck (ix_1 hp hL), u_nn, if_pos z]
    dsimp only
    rw [u_ck (ix_2 hp hL), u_ck t1, e2, u_cb, if_pos rfl, u_nn, n_6]
  · obtain ⟨r, h', h'', e1, t1, e2, t2, hi⟩ := step_go (call_sit (G := G) (X := X) 1 (xs (nI p + (2 : Int32)).toNatClampNeg)) hI
    refine ⟨h'', ?_, hi⟩
    unfold L_case17
    rw [u_ck (ix_1 hp hL), u_nn, if_neg z]
    dsimp only
    rw [u_ck (ix_2 hp hL), u_ck t2, e1, u_cb, u_ck (ix_1 hp hL), u_nn, if_neg z]
    dsimp only
    rw [u_ck (ix_2 hp hL), u_ck t1, e2, u_cb, if_pos rfl, u_nn, n_6]
theorem g_case18 (hG : GI G) (hI : Inv X h) (hp : p + 6 ≤ L) (hL : L ≤ 3072) : ∃ h'', L_case18 G L xs X (X + 59) self (nI p) h = self (nI (p + 6)) h'' ∧ Inv X h'' := by
  obtain ⟨r, h', h'', e1, t1, e2, t2, hi⟩ := step_go (call_plan (G := G) (X := X) (xs (nI p + (1 : Int32)).toNatClampNeg) (xs (nI p + (2 : Int32)).toNatClampNeg)) hI
  refine ⟨h'', ?_, hi⟩
  unfold L_case18
  rw [u_ck (ix_1 hp hL), u_ck (ix_2 hp hL), u_ck t2, e1, u_cb, u_ck (ix_1 hp hL), u_ck (ix_2 hp hL), u_ck t1, e2, u_cb, if_pos rfl, u_nn, n_6]
theorem g_case19 (hG : GI G) (hI : Inv X h) (hp : p + 6 ≤ L) (hL : L ≤ 3072) : ∃ h'', L_case19 G L xs X (X + 59) self (nI p) h = self (nI (p + 6)) h'' ∧ Inv X h'' := by
  obtain ⟨r, h', h'', e1, t1, e2, t2, hi⟩ := step_go (call_comes (G := G) (X := X) (xs (nI p + (1 : Int32)).toNatClampNeg) (xs (nI p + (2 : Int32)).toNatClampNeg) (xs (nI p + (3 : Int32)).toNatClampNeg)) hI
  refine ⟨h'', ?_, hi⟩
  unfold L_case19
  rw [u_ck (ix_1 hp hL), u_ck (ix_2 hp hL), u_ck (ix_3 hp hL), u_ck t2, e1, u_cb, u_ck (ix_1 hp hL), u_ck (ix_2 hp hL), u_ck (ix_3 hp hL), u_ck t1, e2, u_cb, if_pos rfl, u_nn, n_6]
theorem g_case20 (hG : GI G) (hI : Inv X h) (hp : p + 6 ≤ L) (hL : L ≤ 3072) : ∃ h'', L_case20 G L xs X (X + 59) self (nI p) h = self (nI (p + 6)) h'' ∧ Inv X h'' := by
  obtain ⟨r, h', h'', e1, t1, e2, t2, hi⟩ := step_go (call_gains (G := G) (X := X) (xs (nI p + (1 : Int32)).toNatClampNeg) (xs (nI p + (2 : Int32)).toNatClampNeg) (xs (nI p + (3 : Int32)).toNatClampNeg) (xs (nI p + (4 : Int32)).toNatClampNeg)) hI
  refine ⟨h'', ?_, hi⟩
  unfold L_case20
  rw [u_ck (ix_1 hp hL), u_ck (ix_2 hp hL), u_ck (ix_3 hp hL), u_ck (ix_4 hp hL), u_ck t2, e1, u_cb, u_ck (ix_1 hp hL), u_ck (ix_2 hp hL), u_ck (ix_3 hp hL), u_ck (ix_4 hp hL), u_ck t1, e2, u_cb, if_pos rfl, u_nn, n_6]
theorem g_case21 (hG : GI G) (hI : Inv X h) (hp : p + 6 ≤ L) (hL : L ≤ 3072) : ∃ h'', L_case21 G L xs X (X + 59) self (nI p) h = self (nI (p + 6)) h'' ∧ Inv X h'' := by
  obtain ⟨r, h', h'', e1, t1, e2, t2, hi⟩ := step_go (call_rests (G := G) (X := X) (xs (nI p + (1 : Int32)).toNatClampNeg) (xs (nI p + (2 : Int32)).toNatClampNeg) (xs (nI p + (3 : Int32)).toNatClampNeg)) hI
  refine ⟨h'', ?_, hi⟩
  unfold L_case21
  rw [u_ck (ix_1 hp hL), u_ck (ix_2 hp hL), u_ck (ix_3 hp hL), u_ck t2, e1, u_cb, u_ck (ix_1 hp hL), u_ck (ix_2 hp hL), u_ck (ix_3 hp hL), u_ck t1, e2, u_cb, if_pos rfl, u_nn, n_6]
theorem g_case22 (hG : GI G) (hI : Inv X h) (hp : p + 6 ≤ L) (hL : L ≤ 3072) : ∃ h'', L_case22 G L xs X (X + 59) self (nI p) h = self (nI (p + 6)) h'' ∧ Inv X h'' := by
  obtain ⟨r, h', h'', e1, t1, e2, t2, hi⟩ := step_go (call_swing (G := G) (X := X) (xs (nI p + (1 : Int32)).toNatClampNeg)) hI
  refine ⟨h'', ?_, hi⟩
  unfold L_case22
  rw [u_ck (ix_1 hp hL), u_ck t2, e1, u_cb, u_ck (ix_1 hp hL), u_ck t1, e2, u_cb, if_pos rfl, u_nn, n_6]
theorem g_case23 (hG : GI G) (hI : Inv X h) (hp : p + 6 ≤ L) (hL : L ≤ 3072) : ∃ h'', L_case23 G L xs X (X + 59) self (nI p) h = self (nI (p + 6)) h'' ∧ Inv X h'' := by
  obtain ⟨r, h', h'', e1, t1, e2, t2, hi⟩ := step_go (call_log (G := G) (X := X) (xs (nI p + (1 : Int32)).toNatClampNeg) (xs (nI p + (2 : Int32)).toNatClampNeg)) hI
  refine ⟨h'', ?_, hi⟩
  unfold L_case23
  rw [u_ck (ix_1 hp hL), u_ck (ix_2 hp hL), u_ck t2, e1, u_cb, u_ck (ix_1 hp hL), u_ck (ix_2 hp hL), u_ck t1, e2, u_cb, if_pos rfl, u_nn, n_6]
theorem g_case24 (hG : GI G) (hI : Inv X h) (hp : p + 6 ≤ L) (hL : L ≤ 3072) : ∃ h'', L_case24 G L xs X (X + 59) self (nI p) h = self (nI (p + 6)) h'' ∧ Inv X h'' := by
  obtain ⟨r, h', h'', e1, t1, e2, t2, hi⟩ := step_go (call_ruled (G := G) (X := X) (xs (nI p + (1 : Int32)).toNatClampNeg)) hI
  refine ⟨h'', ?_, hi⟩
  unfold L_case24
  rw [u_ck (ix_1 hp hL), u_ck t2, e1, u_cb, u_ck (ix_1 hp hL), u_ck t1, e2, u_cb, if_pos rfl, u_nn, n_6]
theorem g_case25 (hG : GI G) (hI : Inv X h) (hp : p + 6 ≤ L) (hL : L ≤ 3072) : ∃ h'', L_case25 G L xs X (X + 59) self (nI p) h = self (nI (p + 6)) h'' ∧ Inv X h'' := by
  obtain ⟨r, h', h'', e1, t1, e2, t2, hi⟩ := step_go (call_look (G := G) (X := X) (xs (nI p + (1 : Int32)).toNatClampNeg)) hI
  refine ⟨h'', ?_, hi⟩
  unfold L_case25
  rw [u_ck (ix_1 hp hL), u_ck t2, e1, u_cb, u_ck (ix_1 hp hL), u_ck t1, e2, u_cb, if_pos rfl, u_nn, n_6]
theorem g_case26 (hG : GI G) (hI : Inv X h) (hp : p + 6 ≤ L) (hL : L ≤ 3072) : ∃ h'', L_case26 G L xs X (X + 59) self (nI p) h = self (nI (p + 6)) h'' ∧ Inv X h'' := by
  obtain ⟨r, h', h'', e1, t1, e2, t2, hi⟩ := step_go (call_seed (G := G) (X := X) (xs (nI p + (1 : Int32)).toNatClampNeg)) hI
  refine ⟨h'', ?_, hi⟩
  unfold L_case26
  rw [u_ck (ix_1 hp hL), u_ck t2, e1, u_cb, u_ck (ix_1 hp hL), u_ck t1, e2, u_cb, if_pos rfl, u_nn, n_6]
theorem g_case27 (hG : GI G) (hI : Inv X h) (hp : p + 6 ≤ L) (hL : L ≤ 3072) : ∃ h'', L_case27 G L xs X (X + 59) self (nI p) h = self (nI (p + 6)) h'' ∧ Inv X h'' := by
  obtain ⟨r, h', h'', e1, t1, e2, t2, hi⟩ := step_go (call_journeys (G := G) (X := X) (xs (nI p + (1 : Int32)).toNatClampNeg) (xs (nI p + (2 : Int32)).toNatClampNeg) (xs (nI p + (3 : Int32)).toNatClampNeg) (xs (nI p + (4 : Int32)).toNatClampNeg)) hI
  refine ⟨h'', ?_, hi⟩
  unfold L_case27
  rw [u_ck (ix_1 hp hL), u_ck (ix_2 hp hL), u_ck (ix_3 hp hL), u_ck (ix_4 hp hL), u_ck t2, e1, u_cb, u_ck (ix_1 hp hL), u_ck (ix_2 hp hL), u_ck (ix_3 hp hL), u_ck (ix_4 hp hL), u_ck t1, e2, u_cb, if_pos rfl, u_nn, n_6]
theorem g_case28 (hG : GI G) (hI : Inv X h) (hp : p + 6 ≤ L) (hL : L ≤ 3072) : ∃ h'', L_case28 G L xs X (X + 59) self (nI p) h = self (nI (p + 6)) h'' ∧ Inv X h'' := by
  obtain ⟨r, h', h'', e1, t1, e2, t2, hi⟩ := step_go (call_count (G := G) (X := X) (xs (nI p + (1 : Int32)).toNatClampNeg)) hI
  refine ⟨h'', ?_, hi⟩
  unfold L_case28
  rw [u_ck (ix_1 hp hL), u_ck t2, e1, u_cb, u_ck (ix_1 hp hL), u_ck t1, e2, u_cb, if_pos rfl, u_nn, n_6]
theorem g_case29 (hG : GI G) (hI : Inv X h) (hp : p + 6 ≤ L) (hL : L ≤ 3072) : ∃ h'', L_case29 G L xs X (X + 59) self (nI p) h = self (nI (p + 6)) h'' ∧ Inv X h'' := by
  obtain ⟨r, h', h'', e1, t1, e2, t2, hi⟩ := step_go (call_image (G := G) (X := X) (xs (nI p + (1 : Int32)).toNatClampNeg)) hI
  refine ⟨h'', ?_, hi⟩
  unfold L_case29
  rw [u_ck (ix_1 hp hL), u_ck t2, e1, u_cb, u_ck (ix_1 hp hL), u_ck t1, e2, u_cb, if_pos rfl, u_nn, n_6]
theorem g_case30 (hG : GI G) (hI : Inv X h) (hp : p + 6 ≤ L) (hL : L ≤ 3072) : ∃ h'', L_case30 G L xs X (X + 59) self (nI p) h = self (nI (p + 6)) h'' ∧ Inv X h'' := by
  obtain ⟨r, h', h'', e1, t1, e2, t2, hi⟩ := step_go (call_back (G := G) (X := X) (xs (nI p + (1 : Int32)).toNatClampNeg)) hI
  refine ⟨h'', ?_, hi⟩
  unfold L_case30
  rw [u_ck (ix_1 hp hL), u_ck t2, e1, u_cb, u_ck (ix_1 hp hL), u_ck t1, e2, u_cb, if_pos rfl, u_nn, n_6]
theorem sw_go (hG : GI G) (hI : Inv X h) (hp : p + 6 ≤ L) (hL : L ≤ 3072) (k : Int32) : ∃ h'', L_sw G L xs X (X + 59) self k (nI p) h = self (nI (p + 6)) h'' ∧ Inv X h'' := by
  unfold L_sw
  by_cases c0 : k = (0 : Int32)
  · rw [if_pos c0]; exact g_case0 hG hI hp hL
  rw [if_neg c0]
  by_cases c1 : k = (1 : Int32)
  · rw [if_pos c1]; exact g_case1 hG hI hp hL
  rw [if_neg c1]
  by_cases c2 : k = (2 : Int32)
  · rw [if_pos c2]; exact g_case2 hG hI hp hL
  rw [if_neg c2]
  by_cases c3 : k = (3 : Int32)
  · rw [if_pos c3]; exact g_case3 hG hI hp hL
  rw [if_neg c3]
  by_cases c4 : k = (4 : Int32)
  · rw [if_pos c4]; exact g_case4 hG hI hp hL
  rw [if_neg c4]
  by_cases c5 : k = (5 : Int32)
  · rw [if_pos c5]; exact g_case5 hG hI hp hL
  rw [if_neg c5]
  by_cases c6 : k = (6 : Int32)
  · rw [if_pos c6]; exact g_case6 hG hI hp hL
  rw [if_neg c6]
  by_cases c7 : k = (7 : Int32)
  · rw [if_pos c7]; exact g_case7 hG hI hp hL
  rw [if_neg c7]
  by_cases c8 : k = (8 : Int32)
  · rw [if_pos c8]; exact g_case8 hG hI hp hL
  rw [if_neg c8]
  by_cases c9 : k = (9 : Int32)
  · rw [if_pos c9]; exact g_case9 hG hI hp hL
  rw [if_neg c9]
  by_cases c10 : k = (10 : Int32)
  · rw [if_pos c10]; exact g_case10 hG hI hp hL
  rw [if_neg c10]
  by_cases c11 : k = (11 : Int32)
  · rw [if_pos c11]; exact g_case11 hG hI hp hL
  rw [if_neg c11]
  by_cases c12 : k = (12 : Int32)
  · rw [if_pos c12]; exact g_case12 hG hI hp hL
  rw [if_neg c12]
  by_cases c13 : k = (13 : Int32)
  · rw [if_pos c13]; exact g_case13 hG hI hp hL
  rw [if_neg c13]
  by_cases c14 : k = (14 : Int32)
  · rw [if_pos c14]; exact g_case14 hG hI hp hL
  rw [if_neg c14]
  by_cases c15 : k = (15 : Int32)
  · rw [if_pos c15]; exact g_case15 hG hI hp hL
  rw [if_neg c15]
  by_cases c16 : k = (16 : Int32)
  · rw [if_pos c16]; exact g_case16 hG hI hp hL
  rw [if_neg c16]
  by_cases c17 : k = (17 : Int32)
  · rw [if_pos c17]; exact g_case17 hG hI hp hL
  rw [if_neg c17]
  by_cases c18 : k = (18 : Int32)
  · rw [if_pos c18]; exact g_case18 hG hI hp hL
  rw [if_neg c18]
  by_cases c19 : k = (19 : Int32)
  · rw [if_pos c19]; exact g_case19 hG hI hp hL
  rw [if_neg c19]
  by_cases c20 : k = (20 : Int32)
  · rw [if_pos c20]; exact g_case20 hG hI hp hL
  rw [if_neg c20]
  by_cases c21 : k = (21 : Int32)
  · rw [if_pos c21]; exact g_case21 hG hI hp hL
  rw [if_neg c21]
  by_cases c22 : k = (22 : Int32)
  · rw [if_pos c22]; exact g_case22 hG hI hp hL
  rw [if_neg c22]
  by_cases c23 : k = (23 : Int32)
  · rw [if_pos c23]; exact g_case23 hG hI hp hL
  rw [if_neg c23]
  by_cases c24 : k = (24 : Int32)
  · rw [if_pos c24]; exact g_case24 hG hI hp hL
  rw [if_neg c24]
  by_cases c25 : k = (25 : Int32)
  · rw [if_pos c25]; exact g_case25 hG hI hp hL
  rw [if_neg c25]
  by_cases c26 : k = (26 : Int32)
  · rw [if_pos c26]; exact g_case26 hG hI hp hL
  rw [if_neg c26]
  by_cases c27 : k = (27 : Int32)
  · rw [if_pos c27]; exact g_case27 hG hI hp hL
  rw [if_neg c27]
  by_cases c28 : k = (28 : Int32)
  · rw [if_pos c28]; exact g_case28 hG hI hp hL
  rw [if_neg c28]
  by_cases c29 : k = (29 : Int32)
  · rw [if_pos c29]; exact g_case29 hG hI hp hL
  rw [if_neg c29]
  by_cases c30 : k = (30 : Int32)
  · rw [if_pos c30]; exact g_case30 hG hI hp hL
  rw [if_neg c30]
  refine ⟨h, ?_, hI⟩
  unfold L_case31
  rw [u_nn, n_6]
theorem law_loop (hG : GI G) (hL : L ≤ 3072) : ∀ (d p m : Nat) (h : AH), L < p + 6 + 6 * d → p ≤ L + 6 → d < m → Inv X h → ∃ h', lq1 (F_law G L xs X (X + 59)) m (nI p) h = some (1, h')
  | d, p, 0, h, hd, hq, hm, hI => by omega
  | d, p, m + 1, h, hd, hq, hm, hI => by
    by_cases z : p + 6 ≤ L
    · have e6 : nI L - 6 = nI (L - 6) := pk_sub (b := 6) (by omega)
      have n1 : ¬ nI (L - 6) < nI p := nI_nlt (by omega) (by omega)
      have n2 : ¬ (nI p < 0 ∨ L ≤ (nI p).toNatClampNeg) := by
        rintro (q | q)
        · exact nI_nlt (b := 0) (Nat.zero_le _) (by omega) q
        · rw [nI_clamp (by omega)] at q; omega
      obtain ⟨h1, a1, a2⟩ := sw_go (G := G) (xs := xs) (self := lq1 (F_law G L xs X (X + 59)) m) hG hI z hL (xs (nI p).toNatClampNeg &&& (31 : Int32))
      obtain ⟨h', b1⟩ := law_loop hG hL (d - 1) (p + 6) m h1 (by omega) (by omega) (by omega) a2
      refine ⟨h', ?_⟩
      show F_law G L xs X (X + 59) (lq1 (F_law G L xs X (X + 59)) m) (nI p) h = _
      rw [F_law, e6, if_neg n1, u_ck n2]
      exact a1.trans b1
    · refine ⟨h, ?_⟩
      have i1 : (nI L - 6).toInt = (L : Int) - 6 := by
        rw [Int32.toInt_sub, nI_toInt (by omega)]
        exact I_bm (by show -2147483648 ≤ (L : Int) - 6; omega) (by show (L : Int) - 6 < 2147483648; omega)
      have n1 : nI L - 6 < nI p := by rw [I_lt, i1, nI_toInt (by omega)]; omega
      show F_law G L xs X (X + 59) (lq1 (F_law G L xs X (X + 59)) m) (nI p) h = _
      rw [F_law, if_pos n1]
end
