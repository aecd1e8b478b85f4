/-! PURE 78: calls that only look. -/
theorem rng_le {α : Type} {x N N1 : Int32} {a b : α} (h : N1.toInt = N.toInt + 1) : (if x < 0 then a else if N1 ≤ x then a else b) = if 0 ≤ x ∧ x ≤ N then b else a := by
  have i0 : (0 : Int32).toInt = 0 := rfl
  by_cases h1 : x < 0
  · rw [if_pos h1, if_neg (fun q => by have := q.1; rw [I_lt] at h1; rw [I_le] at this; omega)]
  · rw [if_neg h1]
    by_cases h2 : N1 ≤ x
    · rw [if_pos h2, if_neg (fun q => by have := q.2; rw [I_le] at h2 this; omega)]
    · rw [if_neg h2, if_pos (by rw [I_lt] at h1; rw [I_le] at h2; rw [I_le, I_le]; omega)]
theorem rng_lt {α : Type} {x N : Int32} {a b : α} : (if x < 0 then a else if N < x then a else b) = if 0 ≤ x ∧ x ≤ N then b else a := by
  by_cases h1 : x < 0
  · rw [if_pos h1, if_neg (fun q => by have := q.1; rw [I_lt] at h1; rw [I_le] at this; omega)]
  · rw [if_neg h1]
    by_cases h2 : N < x
    · rw [if_pos h2, if_neg (fun q => by have := q.2; rw [I_lt] at h2; rw [I_le] at this; omega)]
    · rw [if_neg h2, if_pos (by rw [I_lt] at h1 h2; rw [I_le, I_le]; omega)]
theorem rng_ge {α : Type} {x N : Int32} {a b : α} : (if x < 0 then a else if x ≤ N then b else a) = if 0 ≤ x ∧ x ≤ N then b else a := by
  by_cases h1 : x < 0
  · rw [if_pos h1, if_neg (fun q => by have := q.1; rw [I_lt] at h1; rw [I_le] at this; omega)]
  · rw [if_neg h1]
    by_cases h2 : x ≤ N
    · rw [if_pos h2, if_pos (by rw [I_lt] at h1; rw [I_le] at h2; rw [I_le, I_le]; omega)]
    · rw [if_neg h2, if_neg (fun q => h2 q.2)]
theorem n10 : ¬ (1 : Int32) = 0 := by decide
def Bs (h : AH) (X c t : Nat) (v : VV) : Prop := (m_t h X = .inl 11 ∧ m_r h X 5 = some (X + 10) ∧ m_t h (X + 10) = .inl 6 ∧ m_r h (X + 10) 0 = some c ∧ m_t h c = .inl 0 ∧ m_r h c 0 = some t ∧ m_t h t = .inl 9) ∧ TrV h t v ∧ (m_i h c 2 = v 1 13 ∧ m_i h c 3 = v 1 11 ∧ m_i h c 4 = v 1 10 ∧ KV (m_i h c 5) v)
def Kp (X : Nat) (h h' : AH) : Prop := m_n h ≤ m_n h' ∧ ∀ a, X + 59 ≤ a → a < X + 122 → m_t h' a = m_t h a ∧ m_r h' a = m_r h a ∧ m_i h' a = m_i h a ∧ m_l h' a = m_l h a
theorem Kp.rf {X : Nat} {h : AH} : Kp X h h := ⟨Nat.le_refl _, fun _ _ _ => ⟨rfl, rfl, rfl, rfl⟩⟩
def Call (X : Nat) (F : AH → Option (Int32 × AH)) (P : MS → Option (Int32 × MS)) : Prop := ∀ h w, Rel h X w → ∃ r h' w', F h = some (r, h') ∧ P w = some (r, w') ∧ Rel h' X w' ∧ Kp X h h'
theorem Call.ro {X : Nat} {F : AH → Option (Int32 × AH)} {P : MS → Option (Int32 × MS)} (H : ∀ own R h w, RelO own R h X w → ∃ r, F h = some (r, h) ∧ P w = some (r, w)) : Call X F P := by
  intro h w ⟨own, R, hR⟩
  obtain ⟨r, h1, h2⟩ := H own R h w hR
  exact ⟨r, h, w, h1, h2, ⟨own, R, hR⟩, Kp.rf⟩
section
variable {G : GG} {own : Nat → Nat} {R X c t U : Nat} {h : AH} {w : MS} {v : VV}
/-- what the scene in use holds -/
def Cur (own : Nat → Nat) (R : Nat) (h : AH) (X : Nat) (w : MS) (U c t : Nat) : Prop := Bs h X c t w.1 ∧ Sta w.1 ∧ CabD own h X c t w.1 ∧ ScV R h (X + 10) w.1 U ∧ w.1 0 55 = nI U ∧ LgR h (X + 10) (X + 31) (X + 32) w.1 ∧ (w.1 1 0 = 0 → U = 0) ∧ Chn own h X t w.1 U c ∧ ScS h (X + 10) (X + 31) (X + 32)
theorem RelO.cur (hR : RelO own R h X w) : ∃ U c t, Cur own R h X w U c t := by
  obtain ⟨g, -, -, -, ⟨U, u, c, t, s1, s2, s3, s4, s5, s6, s7, s8⟩, -⟩ := hR
  refine ⟨U, c, t, ?_, s4, s3, s5, u, s6, s7, s8, s1⟩
  have gx := g.1
  rcases s3 with ⟨a, b, d⟩ | ⟨a, b, d, e⟩
  · exact ⟨⟨gx.1, gx.2.2.2.2.2.1, s1.1, s2, cab_t b, cab_0 b, tr_t b⟩, b.2.2.1, cab_i2 b, cab_i3 b, cab_i4 b, cab_i5 b⟩
  · subst b d
    exact ⟨⟨gx.1, gx.2.2.2.2.2.1, s1.1, s2, e.1, e.2.1, e.2.2.1.1⟩, e.2.2.2.1, e.2.2.2.2⟩
theorem told01 (hS : St v) : v 1 0 = 0 ∨ v 1 0 = 1 := by
  rcases hS.1 with h | h
  · exact Or.inl h.1
  · exact Or.inr h
theorem told_N (hS : St v) (h0 : v 1 0 = 0) : sN v = 0 := by
  rcases hS.1 with h | h
  · unfold sN; rw [h.2]; rfl
  · rw [h0] at h; exact absurd h (by decide)
theorem CabD.cab (hD : CabD own h X c t v) (h1 : v 1 0 = 1) : Cab h c t v ∧ CaD own h X c t := by
  rcases hD with ⟨a, b, d⟩ | ⟨a, b, d, e⟩
  · exact ⟨b, d⟩
  · rw [a] at h1; exact absurd h1 (by decide)
theorem c_hasTrain (hB : Bs h X c t v) (hS : St v) : f_X11_hasTrain G X h = some (v 1 0, h) := by
  unfold f_X11_hasTrain
  have e : m_i h t 0 = v 1 0 := hB.2.1.1
  have e1 : v 1 0 &&& 1 = v 1 0 := by rcases told01 hS with q | q <;> rw [q] <;> rfl
  simp only [u_nn, u_ob, u_cb, u_cw, u_ck, on_s, on_n, hB.1.1, hB.1.2.1, hB.1.2.2.1, hB.1.2.2.2.1, hB.1.2.2.2.2.1, hB.1.2.2.2.2.2.1, hB.1.2.2.2.2.2.2, e, e1]
theorem p_isTrain (hS : St w.1) : p_X12_isTrain G w = some (w.1 1 0, w) := by
  unfold p_X12_isTrain
  simp only [u_nn, u_ob, u_cb, u_cw, u_ck, on_s, on_n, ix_1_0, ix_7_0, ix_10_0, ix_10_1, ix_10_2, ix_10_3, ix_10_4, ix_10_5, ix_10_6, ix_10_7, ix_10_8, ix_10_9, ix_13_0, ix_13_1, ix_13_2, ix_13_3, ix_13_4, ix_13_5, ix_13_6, ix_13_7, ix_13_8, ix_13_9, ix_13_10, ix_13_11, ix_13_12, ix_17_0, ix_17_1, ix_17_2, ix_17_3, ix_17_4, ix_17_6, ix_17_7, ix_17_8, ix_17_9, ix_17_10, ix_17_11, ix_17_12, ix_17_13, ix_17_14, ix_17_15, ix_17_16, ix_256_0, ix_300_0, tn_0, tn_1, tn_2, tn_3, tn_4, tn_5, tn_6, tn_7, tn_8, tn_9, tn_10, tn_11, tn_12, tn_13, tn_14, tn_15, tn_16, tn_366]
  rcases told01 hS with q | q <;> rw [q] <;> rfl
theorem p_in7 (x : Int32) : p_X12_in G x.toInt64 (0 : Int64) (7 : Int64) w = some (if 0 ≤ x ∧ x ≤ 7 then 1 else 0, w) := p_in_i G x 0 7 w
theorem p_in5 (x : Int32) : p_X12_in G x.toInt64 (0 : Int64) (5 : Int64) w = some (if 0 ≤ x ∧ x ≤ 5 then 1 else 0, w) := p_in_i G x 0 5 w
theorem p_in1 (x : Int32) : p_X12_in G x.toInt64 (0 : Int64) (1 : Int64) w = some (if 0 ≤ x ∧ x ≤ 1 then 1 else 0, w) := p_in_i G x 0 1 w
theorem p_in60 (x : Int32) : p_X12_in G x.toInt64 (0 : Int64) (60 : Int64) w = some (if 0 ≤ x ∧ x ≤ 60 then 1 else 0, w) := p_in_i G x 0 60 w
theorem p_in239 (x : Int32) : p_X12_in G x.toInt64 (0 : Int64) (239 : Int64) w = some (if 0 ≤ x ∧ x ≤ 239 then 1 else 0, w) := p_in_i G x 0 239 w
theorem c_isSeat (x : Int32) : f_X11_isSeat G x h = some (if 0 ≤ x ∧ x ≤ 7 then 1 else 0, h) := by
  unfold f_X11_isSeat; rw [rng_le (N := 7) rfl]; split <;> rfl
theorem c_isHole (x : Int32) : f_X11_isHole G x h = some (if 0 ≤ x ∧ x ≤ 5 then 1 else 0, h) := by
  unfold f_X11_isHole; rw [rng_le (N := 5) rfl]; split <;> rfl
theorem c_isWarmth (x : Int32) : f_X11_isWarmth G x h = some (if 0 ≤ x ∧ x ≤ 60 then 1 else 0, h) := by
  unfold f_X11_isWarmth; rw [rng_lt]; split <;> rfl
theorem bd7 {x : Int32} (h : 0 ≤ x ∧ x ≤ 7) : bd x (-1) 7 := by
  have h1 := h.1; have h2 := h.2
  rw [I_le] at h1 h2
  have i0 : (0 : Int32).toInt = 0 := rfl
  have i7 : (7 : Int32).toInt = 7 := rfl
  unfold bd; omega
theorem call_air (x y : Int32) : Call X (f_X11_air G X x y) (p_X12_air G x y) := by
  refine Call.ro (fun own R h w hR => ?_)
  unfold f_X11_air p_X12_air
  rw [c_isSeat, u_cb, p_in7, u_cw]
  by_cases h1 : 0 ≤ x ∧ x ≤ 7
  · rw [if_pos h1, if_neg n10, if_neg n10, c_isHole, u_cb, p_in5, u_cw]
    by_cases h2 : 0 ≤ y ∧ y ≤ 5
    · rw [if_pos h2, if_neg n10, if_neg n10, c_airAt (bd7 h1), u_cb, p_airOf, u_cw]
      exact ⟨_, rfl, rfl⟩
    · rw [if_neg h2]; exact ⟨_, rfl, rfl⟩
  · rw [if_neg h1]; exact ⟨_, rfl, rfl⟩
theorem call_seat (x : Int32) : Call X (f_X11_seat G X x) (p_X12_seat G x) := by
  refine Call.ro (fun own R h w hR => ?_)
  obtain ⟨U, c, t, hB, hSt, hD, -⟩ := hR.cur
  have hS := hSt.1
  unfold f_X11_seat p_X12_seat
  rw [u_ck hB.1.1, c_hasTrain hB hS, u_cb, p_isTrain hS, u_cw]
  rcases told01 hS with q | q
  · rw [q, if_pos rfl, if_pos rfl]; exact ⟨_, rfl, rfl⟩
  · rw [q, if_neg n10, if_neg n10, c_isSeat, u_cb, p_in7, u_cw]
    by_cases h1 : 0 ≤ x ∧ x ≤ 7
    · have hne : x ≠ -1 := fun e => by rw [e] at h1; exact absurd h1.1 (by decide)
      have hC := (hD.cab q).1
      rw [if_pos h1, if_neg n10, if_neg n10, u_ck hB.1.1, hB.1.2.1, u_ob, u_ck hB.1.2.2.1, hB.1.2.2.2.1, u_ob, u_ck (cab_t hC), c_sitterOf hC hS, u_cb, p_sitterOf hS hne, u_cw]
      exact ⟨_, rfl, rfl⟩
    · rw [if_neg h1]; exact ⟨_, rfl, rfl⟩
theorem call_stretch (x y : Int32) : Call X (f_X11_stretch G X x y) (p_X12_stretch G x y) := by
  refine Call.ro (fun own R h w hR => ?_)
  obtain ⟨U, c, t, hB, hSt, hD, -⟩ := hR.cur
  have hS := hSt.1
  unfold f_X11_stretch p_X12_stretch
  rw [u_ck hB.1.1, c_hasTrain hB hS, u_cb, p_isTrain hS, u_cw]
  rcases told01 hS with q | q
  · rw [q, if_pos rfl, if_pos rfl]; exact ⟨_, rfl, rfl⟩
  · have hC := (hD.cab q).1
    rw [q, if_neg n10, if_neg n10, p_in239, u_cw, rng_le (N := 239) (N1 := 240) rfl, rng_ge (N := 1)]
    by_cases h1 : 0 ≤ x ∧ x ≤ 239
    · rw [if_pos h1, if_pos h1, if_neg n10, p_in1, u_cw]
      by_cases h2 : 0 ≤ y ∧ y ≤ 1
      · rw [if_pos h2, if_pos h2, if_neg n10]
        by_cases h3 : y = 1
        · rw [if_pos h3, if_pos h3, u_ck hB.1.1, hB.1.2.1, u_ob, u_ck hB.1.2.2.1, hB.1.2.2.2.1, u_ob, u_ck (cab_t hC), cab_0 hC, u_ob, u_ck (tr_t hC), c_coldAt hC hS, u_cb, p_coldOf hS, u_cw]
          exact ⟨_, rfl, rfl⟩
        · rw [if_neg h3, if_neg h3, u_ck hB.1.1, hB.1.2.1, u_ob, u_ck hB.1.2.2.1, hB.1.2.2.2.1, u_ob, u_ck (cab_t hC), cab_0 hC, u_ob, u_ck (tr_t hC), c_isTunnel hC hS, u_cb, p_isTunnel hS, u_cw]
          cases tunV w.1 x
          · exact ⟨_, rfl, rfl⟩
          · exact ⟨_, rfl, rfl⟩
      · rw [if_neg h2, if_neg h2]; exact ⟨_, rfl, rfl⟩
    · rw [if_neg h1, if_neg h1]; exact ⟨_, rfl, rfl⟩
theorem c_aboardBits0 (hB : Bs h X c t v) (hS : St v) (h0 : sN v = 0) : f_X0_aboardBits G c h = some (bitV v, h) := by
  unfold f_X0_aboardBits
  have e6 : m_i h t 5 = v 1 6 := hB.2.1.2.2.2.2.2.1
  have hN := nle_N hS
  rw [h0, nI_0] at hN
  have : ∀ n : Nat, 0 < n → lq2 (F_X0_aboardBits_4 G c) n 0 0 h = some (0, h) := by
    intro n hn
    obtain ⟨m, rfl⟩ : ∃ m, n = m + 1 := ⟨n - 1, by omega⟩
    show F_X0_aboardBits_4 G c _ _ _ _ = _
    rw [F_X0_aboardBits_4]
    simp only [u_nn, u_ob, u_cb, u_cw, u_ck, on_s, on_n, hB.1.1, hB.1.2.1, hB.1.2.2.1, hB.1.2.2.2.1, hB.1.2.2.2.2.1, hB.1.2.2.2.2.2.1, hB.1.2.2.2.2.2.2, e6, hN, if_true]
  rw [this bN (bN_gt (by decide))]
  unfold bitV; rw [h0]; rfl
theorem c_hasPersonB (hB : Bs h X c t v) (hS : St v) (x : Int32) : f_X9_hasPerson G t x h = some (if 0 ≤ x ∧ x ≤ v 1 6 - 1 then 1 else 0, h) := by
  have h8 := st_N8 hS
  have hN := st_N hS
  have e6 : m_i h t 5 = v 1 6 := hB.2.1.2.2.2.2.2.1
  have hi : (v 1 6).toInt = sN v := by rw [hN]; exact nI_toInt (by omega)
  have h2 : (v 1 6 - 1).toInt = (sN v : Int) - 1 := by rw [I_sub (by rw [hi]; simp; omega) (by rw [hi]; simp; omega), hi]; rfl
  unfold f_X9_hasPerson
  rw [u_ck hB.1.2.2.2.2.2.2, e6, rng_le (N := v 1 6 - 1) (by omega)]
  split <;> rfl
theorem call_count (x : Int32) : Call X (f_X11_count G X x) (p_X12_count G x) := by
  refine Call.ro (fun own R h w hR => ?_)
  obtain ⟨U, c, t, hB, hSt, hD, hV, hU, hL, -⟩ := hR.cur
  have hS := hSt.1
  obtain ⟨g, -, hg1, hg2, -⟩ := hL
  obtain ⟨n, hn, t1, t2, -⟩ := hR.2.1
  have hb : f_X0_aboardBits G c h = some (bitV w.1, h) := by
    rcases told01 hS with q | q
    · exact c_aboardBits0 hB hS (told_N hS q)
    · exact c_aboardBits (hD.cab q).1 hS hSt.2.1
  have hk : (m_i h c 5 >>> (((2 : Int32) * 0) &&& 31)) &&& (3 : Int32) = w.1 1 12 := by
    obtain ⟨n, hn, hK, hkv⟩ := hB.2.2.2.2.2
    have h1 := ago_e (L := 0) hn (by decide)
    rw [nI_0] at h1
    rw [hK, h1]
    have h2 := hkv 0 (by decide)
    unfold kv at h2
    rw [if_pos rfl] at h2
    exact h2.symm
  have tv := hB.2.1
  have r0 := hR.1.1.2.1
  have tp : m_t h (X + 1) = .inl 8 := hR.1.2.1.1 (0, .inl 8) (by simp [rT])
  unfold f_X11_count p_X12_count f_X11_knobAgo
  simp only [u_nn, u_ob, u_cb, u_cw, u_ck, on_s, on_n, hB.1.1, hB.1.2.1, hB.1.2.2.1, hB.1.2.2.2.1, hB.1.2.2.2.2.1, hB.1.2.2.2.2.2.1, hB.1.2.2.2.2.2.2, ix_1_0, ix_7_0, ix_10_0, ix_10_1, ix_10_2, ix_10_3, ix_10_4, ix_10_5, ix_10_6, ix_10_7, ix_10_8, ix_10_9, ix_13_0, ix_13_1, ix_13_2, ix_13_3, ix_13_4, ix_13_5, ix_13_6, ix_13_7, ix_13_8, ix_13_9, ix_13_10, ix_13_11, ix_13_12, ix_17_0, ix_17_1, ix_17_2, ix_17_3, ix_17_4, ix_17_6, ix_17_7, ix_17_8, ix_17_9, ix_17_10, ix_17_11, ix_17_12, ix_17_13, ix_17_14, ix_17_15, ix_17_16, ix_256_0, ix_300_0, tn_0, tn_1, tn_2, tn_3, tn_4, tn_5, tn_6, tn_7, tn_8, tn_9, tn_10, tn_11, tn_12, tn_13, tn_14, tn_15, tn_16, tn_366, hb, hk, hB.2.2.1, hB.2.2.2.1, hB.2.2.2.2.1, tv.2.2.2.1, tv.2.2.2.2.2.1, tv.2.2.2.2.2.2.1, tv.2.2.2.2.2.2.2.1, hR.2.2.1.2.1, hR.2.2.1.2.2.1, hV.1, hV.2.2.1, hV.2.2.2.2.1, hU, hg1, hg2, r0, tp, t1, t2, p_ridersSet hS]
  by_cases c0 : x = 0
  · simp only [c0, if_true]; exact ⟨_, rfl, rfl⟩
  simp only [c0, if_false]
  by_cases c1 : x = 1
  · simp only [c1, if_true]; exact ⟨_, rfl, rfl⟩
  simp only [c1, if_false]
  by_cases c2 : x = 2
  · simp only [c2, if_true]; exact ⟨_, rfl, rfl⟩
  simp only [c2, if_false]
  by_cases c3 : x = 3
  · simp only [c3, if_true]; exact ⟨_, rfl, rfl⟩
  simp only [c3, if_false]
  by_cases c4 : x = 4
  · simp only [c4, if_true]; exact ⟨_, rfl, rfl⟩
  simp only [c4, if_false]
  by_cases c5 : x = 5
  · simp only [c5, if_true]; exact ⟨_, rfl, rfl⟩
  simp only [c5, if_false]
  by_cases c6 : x = 6
  · simp only [c6, if_true]; exact ⟨_, rfl, rfl⟩
  simp only [c6, if_false]
  by_cases c7 : x = 7
  · simp only [c7, if_true]; exact ⟨_, rfl, rfl⟩
  simp only [c7, if_false]
  by_cases c8 : x = 8
  · simp only [c8, if_true]; exact ⟨_, rfl, rfl⟩
  simp only [c8, if_false]
  by_cases c9 : x = 9
  · simp only [c9, if_true]; exact ⟨_, rfl, rfl⟩
  simp only [c9, if_false]
  by_cases c10 : x = 10
  · simp only [c10, if_true]; exact ⟨_, rfl, rfl⟩
  simp only [c10, if_false]
  by_cases c11 : x = 11
  · simp only [c11, if_true]; exact ⟨_, rfl, rfl⟩
  simp only [c11, if_false]
  by_cases c12 : x = 12
  · simp only [c12, if_true]; exact ⟨_, rfl, rfl⟩
  simp only [c12, if_false]
  by_cases c13 : x = 13
  · simp only [c13, if_true]; exact ⟨_, rfl, rfl⟩
  simp only [c13, if_false]
  by_cases c14 : x = 14
  · simp only [c14, if_true]; exact ⟨_, rfl, rfl⟩
  simp only [c14, if_false]
  exact ⟨_, rfl, rfl⟩
theorem call_person (x y : Int32) : Call X (f_X11_person G X x y) (p_X12_person G x y) := by
  refine Call.ro (fun own R h w hR => ?_)
  obtain ⟨U, c, t, hB, hSt, hD, hV, hU, hL, -⟩ := hR.cur
  have hS := hSt.1
  unfold f_X11_person p_X12_person
  simp only [u_nn, u_ob, u_cb, u_cw, u_ck, on_s, on_n, hB.1.1, hB.1.2.1, hB.1.2.2.1, hB.1.2.2.2.1, hB.1.2.2.2.2.1, hB.1.2.2.2.2.2.1, hB.1.2.2.2.2.2.2, c_hasPersonB hB hS, p_isPerson]
  by_cases h1 : 0 ≤ x ∧ x ≤ w.1 1 6 - 1
  · obtain ⟨q, hq, rfl⟩ := in_N' hS h1
    have told : w.1 1 0 = 1 := (told01 hS).resolve_left (fun e => by rw [told_N hS e] at hq; omega)
    have hC := (hD.cab told).1
    have hA := hSt.2.1
    have h10 := ab01 hS hq
    have hf := and1 (w.1 1 7 >>> (nI q &&& 31))
    simp only [if_pos h1, cab_t hC, cab_0 hC, cab_6 hC, cab_7 hC, cab_8 hC, cab_9 hC, tr_t hC, tr_6 hC, tr_8 hC, tr_9 hC, tr_11 hC, tr_12 hC, tr_13 hC, cab_i2 hC, cab_i3 hC, cab_i4 hC, tr_i0 hC, tr_i1 hC, tr_i2 hC, tr_i3 hC, tr_i4 hC, tr_i5 hC, tr_i7 hC, tr_i10 hC, q8 hS hq, qc hS hq, cab_x1 hC hS hq, cab_x2 hC hS hq, cab_x3 hC hS hq, cab_x4 hC hS hq, cab_v1 hC hq, cab_v2 hC hq, cab_v3 hC hq, cab_v4 hC hq, tr_x1 hC hS hq, tr_rq hC hS hq, tr_tq hC hS hq, tr_q0 hC hq, tr_q1 hC hq, tr_q2 hC hq, tr_q3 hC hq, tr_q4 hC hq, tr_q6 hC hq, ix_1_0, ix_7_0, ix_10_0, ix_10_1, ix_10_2, ix_10_3, ix_10_4, ix_10_5, ix_10_6, ix_10_7, ix_10_8, ix_10_9, ix_13_0, ix_13_1, ix_13_2, ix_13_3, ix_13_4, ix_13_5, ix_13_6, ix_13_7, ix_13_8, ix_13_9, ix_13_10, ix_13_11, ix_13_12, ix_17_0, ix_17_1, ix_17_2, ix_17_3, ix_17_4, ix_17_6, ix_17_7, ix_17_8, ix_17_9, ix_17_10, ix_17_11, ix_17_12, ix_17_13, ix_17_14, ix_17_15, ix_17_16, ix_256_0, ix_300_0, tn_0, tn_1, tn_2, tn_3, tn_4, tn_5, tn_6, tn_7, tn_8, tn_9, tn_10, tn_11, tn_12, tn_13, tn_14, tn_15, tn_16, tn_366, u_nn, u_ob, u_cb, u_cw, u_ck, on_s, on_n, c_isAboard hC hS hA hq, c_wantOf hC hS hq, c_sufferingOf hC hS hq, p_rides hS hq, p_wantOf hS hq, p_suffersBy hS hq, p_has hS hq]
    simp only [show ¬ (1 : Int32) = 0 by decide, if_false]
    by_cases c0 : y = 0
    · simp only [c0, if_true]
      by_cases ha : w.1 10 q = 0
      · have : w.1 9 q = -1 := Classical.byContradiction fun e => by
          have := (st_P hS hq).2.2.2.2.2.2.2.2.2.1 e
          rw [ha] at this; exact absurd this (by decide)
        simp only [ha, if_true, this]; exact ⟨_, rfl, rfl⟩
      · simp only [ha, if_false]; exact ⟨_, rfl, rfl⟩
    simp only [c0, if_false]
    by_cases c1 : y = 1
    · simp only [c1, if_true]
      rcases h10 with ha | ha <;> rw [ha] <;> exact ⟨_, rfl, rfl⟩
    simp only [c1, if_false]
    by_cases c2 : y = 2
    · simp only [c2, if_true]
      by_cases ha : w.1 10 q = 0 <;> simp only [ha, if_true, if_false] <;> exact ⟨_, rfl, rfl⟩
    simp only [c2, if_false]
    by_cases c3 : y = 3
    · simp only [c3, if_true]
      by_cases ha : w.1 10 q = 0 <;> simp only [ha, if_true, if_false] <;> exact ⟨_, rfl, rfl⟩
    simp only [c3, if_false]
    by_cases c4 : y = 4
    · simp only [c4, if_true]; exact ⟨_, rfl, rfl⟩
    simp only [c4, if_false]
    by_cases c5 : y = 5
    · simp only [c5, if_true]; exact ⟨_, rfl, rfl⟩
    simp only [c5, if_false]
    by_cases c6 : y = 6
    · simp only [c6, if_true]; exact ⟨_, rfl, rfl⟩
    simp only [c6, if_false]
    by_cases c7 : y = 7
    · simp only [c7, if_true]; exact ⟨_, rfl, rfl⟩
    simp only [c7, if_false]
    by_cases c8 : y = 8
    · simp only [c8, if_true]; exact ⟨_, rfl, rfl⟩
    simp only [c8, if_false]
    by_cases c9 : y = 9
    · simp only [c9, if_true]
      by_cases hf0 : fro w.1 q = 0 <;> simp only [hf0, if_true, if_false] <;> exact ⟨_, rfl, rfl⟩
    simp only [c9, if_false]
    exact ⟨_, rfl, rfl⟩
  · simp only [if_neg h1, if_true]; exact ⟨_, rfl, rfl⟩
/-- which hole -/
theorem which_loop (hB : Bs h X c t w.1) (hC : Cab h c t w.1) (hS : St w.1) (hA : Ab w.1) (b y : Int32) (K1 : Int32 → Int32 → AH → Option (Int32 × AH)) (K2 : Int32 → MS → Option (Int32 × MS)) (hK : ∀ q, q < 6 → ∃ r, K1 (nI q) (if b = 0 then (sbV w.1 (nI q)).1 else (sbV w.1 (nI q)).2) h = some (r, h) ∧ K2 (nI q) w = some (r, w)) : ∀ (d j q n m : Nat), j + d = 6 → q < 6 → d < n → d < m → ∃ r, lq3 (F_X11_which_37 G X b y K1) n (nI q) (if b = 0 then (sbV w.1 (nI q)).1 else (sbV w.1 (nI q)).2) (nI j) h = some (r, h) ∧ lw2 (P_X12_which_24 G b y K2) m (nI q) (nI j) w = some (r, w)
  | 0, j, q, n + 1, m + 1, e, hq, _, _ => by
    obtain ⟨r, k1, k2⟩ := hK q hq
    refine ⟨r, ?_, ?_⟩
    · show F_X11_which_37 G X b y K1 _ _ _ _ _ = _
      rw [F_X11_which_37, if_pos (show (6 : Int32) ≤ nI j from nI_le (a := 6) (by omega) (by omega))]; exact k1
    · show P_X12_which_24 G b y K2 _ _ _ _ = _
      rw [P_X12_which_24, if_pos (show (6 : Int32) ≤ nI j from nI_le (a := 6) (by omega) (by omega))]; exact k2
  | d + 1, j, q, n + 1, m + 1, e, hq, hn, hm => by
    have n6 : ¬ (6 : Int32) ≤ nI j := nI_ge (b := 6) (by omega) (by omega)
    have f1 : ∀ self, F_X11_which_37 G X b y K1 self (nI q) (if b = 0 then (sbV w.1 (nI q)).1 else (sbV w.1 (nI q)).2) (nI j) h = if (if b = 0 then (sbV w.1 (nI q)).1 else (sbV w.1 (nI q)).2) ≤ (if b = 0 then (sbV w.1 (nI j)).1 else (sbV w.1 (nI j)).2) then self (nI q) (if b = 0 then (sbV w.1 (nI q)).1 else (sbV w.1 (nI q)).2) (nI (j + 1)) h else self (nI j) (if b = 0 then (sbV w.1 (nI j)).1 else (sbV w.1 (nI j)).2) (nI (j + 1)) h := fun self => by
      rw [F_X11_which_37, if_neg n6, u_ck hB.1.1, hB.1.2.1, u_ob, u_ck hB.1.2.2.1, hB.1.2.2.2.1, u_ob, u_ck (cab_t hC), c_sufferingBy hC hS hA, u_cb, u_nn, nI_1]
      rfl
    have f2 : ∀ self, P_X12_which_24 G b y K2 self (nI q) (nI j) w = if (if b = 0 then (sbV w.1 (nI q)).1 else (sbV w.1 (nI q)).2) ≤ (if b = 0 then (sbV w.1 (nI j)).1 else (sbV w.1 (nI j)).2) then self (nI q) (nI (j + 1)) w else self (nI j) (nI (j + 1)) w := fun self => by
      rw [P_X12_which_24, if_neg n6, p_sufferNow hS, u_cw, p_sufferNow hS, u_cw, u_nn, nI_1]
      rfl
    show ∃ r, F_X11_which_37 G X b y K1 _ _ _ _ _ = some (r, h) ∧ P_X12_which_24 G b y K2 _ _ _ _ = some (r, w)
    rw [f1, f2]
    by_cases hc : (if b = 0 then (sbV w.1 (nI q)).1 else (sbV w.1 (nI q)).2) ≤ (if b = 0 then (sbV w.1 (nI j)).1 else (sbV w.1 (nI j)).2)
    · rw [if_pos hc, if_pos hc]
      exact which_loop hB hC hS hA b y K1 K2 hK d (j + 1) q n m (by omega) hq (by omega) (by omega)
    · rw [if_neg hc, if_neg hc]
      exact which_loop hB hC hS hA b y K1 K2 hK d (j + 1) j n m (by omega) (by omega) (by omega) (by omega)
theorem call_which (x y : Int32) : Call X (f_X11_which G X x y) (p_X12_which G x y) := by
  refine Call.ro (fun own R h w hR => ?_)
  obtain ⟨U, c, t, hB, hSt, hD, -⟩ := hR.cur
  have hS := hSt.1
  unfold f_X11_which p_X12_which
  rw [u_ck hB.1.1, c_hasTrain hB hS, u_cb, p_isTrain hS, u_cw]
  rcases told01 hS with q | q
  · rw [q, if_pos rfl, if_pos rfl]; exact ⟨_, rfl, rfl⟩
  · have hC := (hD.cab q).1
    rw [q, if_neg n10, if_neg n10, p_in1, u_cw, rng_ge (N := 1)]
    by_cases h2 : 0 ≤ y ∧ y ≤ 1
    · rw [if_pos h2, if_pos h2, if_neg n10, u_ck hB.1.1, hB.1.2.1, u_ob, u_ck hB.1.2.2.1, hB.1.2.2.2.1, u_ob, u_ck (cab_t hC), c_sufferingBy hC hS hSt.2.1, u_cb]
      have := which_loop (G := G) hB hC hS hSt.2.1 x y (fun (v3_79 : Int32) (v4_79 : Int32) (h_79 : AH) => (if y = 0 then (some (v3_79, h_79)) else some (v4_79, h_79))) (fun (v3_60 : Int32) (h_60 : MS) => (if y = 0 then (some (v3_60, h_60)) else cw (p_X12_sufferNow G v3_60 x h_60) fun r21 w19 => some (r21, w19))) (fun q hq => by
        by_cases hy : y = 0
        · simp only [hy, if_true]; exact ⟨_, rfl, rfl⟩
        · simp only [hy, if_false, p_sufferNow hS, u_cw]; exact ⟨_, rfl, rfl⟩) 5 1 0 bN bN rfl (by decide) (bN_gt (by decide)) (bN_gt (by decide))
      rw [nI_0] at this
      exact this
    · rw [if_neg h2, if_neg h2]; exact ⟨_, rfl, rfl⟩
end
