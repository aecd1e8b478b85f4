/-! PURE 86: ahead, comes. -/
section
variable {G : GG} {own : Nat → Nat} {R X c t U : Nat} {h h1 h2 h' : AH} {w w' w1 w2 w3 : MS} {v v' v0 : VV}
/-- rows that a question leaves as they are -/
def WQ (w w' : MS) : Prop := PW w.1 w'.1 ∧ (∀ k, k = 32 ∨ k = 36 ∨ k = 41 ∨ k = 55 → w'.1 0 k = w.1 0 k) ∧ (∀ r, (42 ≤ r ∧ r ≤ 48) ∨ r = 53 ∨ r = 82 → w'.1 r = w.1 r) ∧ ∀ j, j < 5000 → w'.1 81 j = w.1 81 j
theorem WQ.rf : WQ w w := ⟨PW.rf, fun _ _ => rfl, fun _ _ => rfl, fun _ _ => rfl⟩
theorem WQ.tr (a : WQ w w1) (b : WQ w1 w2) : WQ w w2 := ⟨a.1.tr b.1, fun k hk => (b.2.1 k hk).trans (a.2.1 k hk), fun r hr => (b.2.2.1 r hr).trans (a.2.2.1 r hr), fun j hj => (b.2.2.2 j hj).trans (a.2.2.2 j hj)⟩
theorem RelO.wq (hR : RelO own R h X w) (e : WQ w w') : RelO own R h X w' := hR.cgw e.1 e.2.1 e.2.2.1 e.2.2.2
/-- kept, gone through, laid back -/
theorem kb (k1 : p_X12_keepsAll G w = some w1) (hs : ∀ r, r = 0 ∨ (3 ≤ r ∧ r ≤ 7) ∨ (13 ≤ r ∧ r ≤ 19) ∨ (42 ≤ r ∧ r ≤ 48) ∨ r = 53 ∨ r = 81 ∨ r = 82 → w2.1 r = w1.1 r) : ∃ w3, p_X12_laysBack G w2 = some w3 ∧ WQ w w3 ∧ ∀ k, 13 ≤ k → w3.1 k = w2.1 k := by
  obtain ⟨wk, e1, e2, e3, e4, e5⟩ := p_keepsAll (G := G) (w := w)
  rw [k1] at e1; cases e1
  obtain ⟨w3, f1, f2, f3, f4, f5⟩ := kept_back (G := G) (w2 := w2) k1 (hs 81 (by omega)) (fun r hr => hs r (by omega))
  refine ⟨w3, f1, ⟨f2, fun k hk => by rw [f3 k (by omega) (by omega), hs 0 (by omega), e3 k (by omega) (by omega)], fun r hr => ?_, fun j hj => ?_⟩, fun k hk => f4 k (by omega) (Or.inr hk)⟩
  · rw [f4 r (by omega) (by omega), hs r (by omega), e2 r (by omega) (by omega)]
  · rw [f4 81 (by decide) (by decide), hs 81 (by omega), e5, pick_7, if_neg (by omega), if_neg (by omega), if_neg (by omega), if_neg (by omega), if_neg (by omega), if_neg (by omega), if_neg (by omega)]
theorem keeps_pw (k1 : p_X12_keepsAll G w = some w1) : (∀ k, k ≠ 0 → k ≠ 81 → w1.1 k = w.1 k) ∧ PW w.1 w1.1 := by
  obtain ⟨wk, e1, e2, -⟩ := p_keepsAll (G := G) (w := w)
  rw [k1] at e1; cases e1
  exact ⟨e2, PW.of (fun r q1 q2 => e2 r (by omega) (by omega))⟩
theorem FrQ.kp (hR : RelO own R h X w) (hF : FrQ X R h h1) : Kp X h h1 := ⟨by rw [hF.2.1]; exact Nat.le_refl _, fun a q1 q2 => ⟨by rw [hF.1], hF.2.2.1 a (by omega), (hF.2.2.2.2.1 a (no_scr_fix hR.2.2.2.1 (by omega)) (by omega)).1, (hF.2.2.2.2.1 a (no_scr_fix hR.2.2.2.1 (by omega)) (by omega)).2⟩⟩
theorem Cur.frq (hcur : Cur own R h X w U c t) (hR : RelO own R h X w) (hF : FrQ X R h h1) : Bs h1 X c t w.1 := by
  obtain ⟨hB, hSt, hCD, -⟩ := hcur
  have fx : ∀ a, X < a → a < X + 34 → m_i h1 a = m_i h a := fun a q1 q2 => (hF.2.2.2.2.1 a (no_scr_fix hR.2.2.2.1 (by omega)) (by omega)).1
  have rr := hF.2.2.1
  rcases hCD with ⟨a, b, d⟩ | ⟨a, b, d, e⟩
  · have b1 := b.frq (st_N8 hSt.1) d hR.2.2.2.1 hF
    exact ⟨⟨by rw [hF.1]; exact hB.1.1, by rw [rr X (by omega)]; exact hB.1.2.1, by rw [hF.1]; exact hB.1.2.2.1, by rw [rr _ (by omega)]; exact hB.1.2.2.2.1, cab_t b1, cab_0 b1, tr_t b1⟩, b1.2.2.1, cab_i2 b1, cab_i3 b1, cab_i4 b1, cab_i5 b1⟩
  · subst b d
    have e1 := e.frq (st_N8 hSt.1) hR.2.2.2.1 hF
    exact ⟨⟨by rw [hF.1]; exact hB.1.1, by rw [rr X (by omega)]; exact hB.1.2.1, by rw [hF.1]; exact hB.1.2.2.1, by rw [rr _ (by omega)]; exact hB.1.2.2.2.1, e1.1, e1.2.1, e1.2.2.1.1⟩, e1.2.2.2.1, e1.2.2.2.2⟩
theorem rng_n {α : Type} {x L : Int32} {a b : α} (F : α) : (if x < 0 then a else if L < x then a else b) = if 0 ≤ x ∧ x ≤ L then b else a := rng_lt
theorem nat_of {x L : Int32} (hx : 0 ≤ x ∧ x ≤ L) : ∃ n : Nat, x = nI n ∧ (n : Int) ≤ L.toInt ∧ n < 2 ^ 31 := by
  have h1 := hx.1; have h2 := hx.2
  obtain ⟨k, hk, rfl⟩ := nI_of (x := x) (by rw [I_lt]; rw [I_le] at h1; omega)
  refine ⟨k, rfl, ?_, hk⟩
  rw [I_le, nI_toInt hk] at h2; exact h2
/-- the relation's facts that a question needs -/
theorem RelO.m7 (hR : RelO own R h X w) : m_r h X 7 = some (X + 34) := hR.1.1.2.2.2.2.2.2.2.1
theorem call_ahead (x y : Int32) : Call X (f_X11_ahead G X x y) (p_X12_ahead G x y) := by
  intro h w ⟨own, R, hR⟩
  obtain ⟨U, c, t, hc⟩ := hR.cur
  have hB := hc.1
  have hSt := hc.2.1
  have hS := hSt.1
  have hV := hc.2.2.2.1
  have pin2 : ∀ w : MS, p_X12_in G y.toInt64 (0 : Int64) (2 : Int64) w = some (if 0 ≤ y ∧ y ≤ 2 then 1 else 0, w) := fun w => p_in_i G y 0 2 w
  have pinL : ∀ w' : MS, p_X12_in G x.toInt64 (0 : Int64) ((240 - w.1 1 10).toInt64) w' = some (if 0 ≤ x ∧ x ≤ 240 - w.1 1 10 then 1 else 0, w') := fun w' => p_in_i G x 0 (240 - w.1 1 10) w'
  unfold f_X11_ahead p_X12_ahead
  rw [u_ck hB.1.1, c_hasTrain hB hS, u_cb, p_isTrain hS, u_cw]
  rcases told01 hS with q | q
  · rw [q, if_pos rfl, if_pos rfl]; exact stay hR _
  · rw [q, if_neg n10, if_neg n10, u_ck hB.1.1, c_milesLeft hB, u_cb, p_milesLeft, u_cw, pinL, u_cw, rng_lt, rng_ge (N := 2)]
    by_cases h1 : 0 ≤ x ∧ x ≤ 240 - w.1 1 10
    · rw [if_pos h1, if_pos h1, if_neg n10, pin2, u_cw]
      by_cases h2 : 0 ≤ y ∧ y ≤ 2
      · rw [if_pos h2, if_pos h2, if_neg n10, u_ck hB.1.1, hR.m7, u_ob, hB.1.2.1, u_ob, u_ck hB.1.2.2.1, hB.1.2.2.2.1, u_ob, u_ck hR.1.2.2.2.1.1]
        obtain ⟨h1', b1, b2, b3⟩ := c_trial (G := G) hR hc q
        have hCa := (hc.2.2.1.cab q).2
        have hR1 := hR.frq b2
        have hB1 := hc.frq hR b2
        obtain ⟨wk, k1, -⟩ := p_keepsAll (G := G) (w := w)
        obtain ⟨kr, kp⟩ := keeps_pw k1
        have hSk := hSt.pw kp.p3
        have hCk : Cab h1' (X + 34) t wk.1 := b3.pw hS kp.p3
        obtain ⟨law, l1, l2, l3⟩ := trial_law (G := G) hR1 hCk (hCa.frq b2) (x := w.1 1 16) hV.2.2.2.1 (fun k q1 q2 => kr k (by omega) (by omega)) (by rw [kr 1 (by decide) (by decide)])
        obtain ⟨n, rfl, hn1, hn2⟩ := nat_of h1
        have hleft := left_i hS
        have hmk : (wk.1 1 10).toInt = (w.1 1 10).toInt := by rw [pw1 kp (by decide)]
        have hm0 := (st_mile hS).1
        obtain ⟨h2', w2, g1, g2, g3, g4, g5, g6, g7, g8⟩ := goes_both (G := G) hR1.1.1.1 hR1.m7 (N := n) (by omega) hCk hSk l2 (by omega)
        have hF2 : FrQ X R h h2' := b2.tr (g6.q l3)
        have hs : ∀ r, r = 0 ∨ (3 ≤ r ∧ r ≤ 7) ∨ (13 ≤ r ∧ r ≤ 19) ∨ (42 ≤ r ∧ r ≤ 48) ∨ r = 53 ∨ r = 81 ∨ r = 82 → w2.1 r = wk.1 r := fun r hr => g7 r (by unfold MRw; omega)
        obtain ⟨w3, e1, e2, -⟩ := kb (G := G) k1 hs
        rw [b1, u_ob, u_ck hB1.1.1, hB1.1.2.1, u_ob, u_ck hB1.1.2.2.1, show m_i h1' (X + 10) 2 = w.1 1 16 from by rw [(b2.2.2.2.2.1 (X + 10) (no_scr_fix hR.2.2.2.1 (by omega)) (by omega)).1]; exact hV.2.2.1, l1, u_cb, u_ck hB1.1.1, g1, u_ob, k1, u_ob, g2, u_cw, u_nn]
        have x2 : m_t h2' X = .inl 11 := by rw [hF2.1]; exact hB.1.1
        have r2 : m_r h2' X 7 = some (X + 34) := by rw [hF2.2.2.1 X (by omega)]; exact hR.m7
        have fin : ∀ z : Int32, ∃ r h' w', (some (z, h2') : Option (Int32 × AH)) = some (r, h') ∧ (ob (p_X12_laysBack G w2) fun w21 => some (z, w21)) = some (r, w') ∧ Rel h' X w' ∧ Kp X h h' := fun z => by
          rw [e1, u_ob]
          exact ⟨_, _, _, rfl, rfl, ⟨own, R, (hR.frq hF2).wq e2⟩, hF2.kp hR⟩
        by_cases y0 : y = 0
        · rw [if_pos y0, if_pos y0, u_ck x2, r2, u_ob, u_ck (cab_t g3), cab_i2 g3, u_ck ix_17_13, tn_13]
          exact fin _
        · rw [if_neg y0, if_neg y0]
          by_cases y1 : y = 1
          · rw [if_pos y1, if_pos y1, u_ck x2, r2, u_ob, u_ck (cab_t g3), cab_i3 g3, u_ck ix_17_11, tn_11]
            exact fin _
          · rw [if_neg y1, if_neg y1, u_ck x2, r2, u_ob, u_ck (cab_t g3), c_sufferedByAll g3 g4.1, u_cb, p_sufferedAll g4.1, u_cw]
            exact fin _
      · rw [if_neg h2, if_neg h2, if_pos rfl]; exact stay hR _
    · rw [if_neg h1, if_neg h1, if_pos rfl]; exact stay hR _
theorem c_canTry (hB : Bs h X c t v) (hS : St v) (x m : Int32) : f_X11_canTry G X x m h = some (if v 1 0 = 1 ∧ (1 ≤ x ∧ x ≤ m) ∧ x ≤ 240 - v 1 10 then 1 else 0, h) := by
  unfold f_X11_canTry
  rw [u_ck hB.1.1, c_hasTrain hB hS, u_cb]
  rcases told01 hS with q | q
  · rw [if_pos q, if_neg (fun z => by rw [q] at z; exact absurd z.1 (by decide))]
  · rw [if_neg (by rw [q]; decide), u_ck hB.1.1, c_milesLeft hB, u_cb]
    by_cases h1 : x < 1
    · rw [if_pos h1, if_neg (fun z => by have := z.2.1.1; rw [I_lt] at h1; rw [I_le] at this; omega)]
    · rw [if_neg h1]
      by_cases h2 : m < x
      · rw [if_pos h2, if_neg (fun z => by have := z.2.1.2; rw [I_lt] at h2; rw [I_le] at this; omega)]
      · rw [if_neg h2]
        by_cases h3 : 240 - v 1 10 < x
        · rw [if_pos h3, if_neg (fun z => by have := z.2.2; rw [I_lt] at h3; rw [I_le] at this; omega)]
        · rw [if_neg h3, if_pos]
          rw [I_lt] at h1 h2 h3
          refine ⟨q, ⟨?_, ?_⟩, ?_⟩ <;> rw [I_le] <;> omega
theorem copies_at {a b : Nat} (ha : mok a = true) (hb : mok b = true) (hab : a ≠ b) (hl : mln a = mln b) (hl2 : mln a ≤ 2000) : ∀ (d k n : Nat) (w : MS), k + d = mln a → d < n → ∃ w', lw1 (P_X12_copies_2 G a b) n (nI k) w = some w' ∧ Fw (fun r => r = b) w w' ∧ w'.2 = w.2 ∧ ∀ j, w'.1 b j = if k ≤ j ∧ j < mln a then w.1 a j else w.1 b j
  | 0, k, n + 1, w, e, _ => by
    refine ⟨w, ?_, Fw.rf, rfl, fun j => by rw [if_neg (by omega)]⟩
    show P_X12_copies_2 G a b _ _ _ = _
    rw [P_X12_copies_2, u_ck ha, if_pos (nI_le (by omega) (by omega))]
  | d + 1, k, n + 1, w, e, hn => by
    obtain ⟨w', f1, f2, f3, f4⟩ := copies_at ha hb hab hl hl2 d (k + 1) n (w_si w b k (w.1 a k)) (by omega) (by omega)
    refine ⟨w', ?_, (Fw.si (S := fun r => r = b) rfl).tr f2, f3, fun j => ?_⟩
    · show P_X12_copies_2 G a b _ _ _ = _
      rw [P_X12_copies_2, u_ck ha, if_neg (nI_ge (by omega) (by omega)), u_ck ha, u_ck (u_ixn (by omega) (by omega)), u_ck hb, u_ck (u_ixn (by omega) (by omega)), u_nn, u_nn, nI_clamp (by omega), nI_1]
      exact f1
    · rw [f4]
      by_cases c1 : k + 1 ≤ j ∧ j < mln a
      · rw [if_pos c1, if_pos (by omega), w_si_r hab]
      · rw [if_neg c1]
        by_cases c2 : j = k
        · subst c2; rw [if_pos (by omega), w_si_s]
        · rw [if_neg (by omega), w_si_j c2]
theorem p_copies {a b : Nat} (ha : mok a = true) (hb : mok b = true) (hab : a ≠ b) (hl : mln a = mln b) (hl2 : mln a ≤ 2000) (w : MS) : ∃ w', p_X12_copies G a b w = some w' ∧ Fw (fun r => r = b) w w' ∧ w'.2 = w.2 ∧ ∀ j, w'.1 b j = if j < mln a then w.1 a j else w.1 b j := by
  obtain ⟨w', f1, f2, f3, f4⟩ := copies_at (G := G) ha hb hab hl hl2 (mln a) 0 bN w (Nat.zero_add _) (bN_gt (by omega))
  rw [nI_0] at f1
  exact ⟨w', f1, f2, f3, fun j => by rw [f4]; simp only [Nat.zero_le, true_and]⟩
/-- what one suffered in the trial -/
theorem c_inTrial (hX : m_t h X = .inl 11) (h7 : m_r h X 7 = some (X + 34)) (h5 : m_r h X 5 = some (X + 10)) (h6 : m_t h (X + 10) = .inl 6) (h0 : m_r h (X + 10) 0 = some c) (hT : Cab h (X + 34) t v) (hST : St v) (hC : Cab h c t v') (hS : St v') {q : Nat} (hq : q < sN v) (hq' : q < sN v') : f_X11_sufferedInTrial G X (nI q) h = some (v 12 q - v' 12 q, h) := by
  unfold f_X11_sufferedInTrial
  rw [u_ck hX, h7, u_ob, u_ck (cab_t hT), cab_8 hT, u_ob, u_ck (cab_x3 hT hST hq), h5, u_ob, u_ck h6, h0, u_ob, u_ck (cab_t hC), cab_8 hC, u_ob, u_ck (cab_x3 hC hS hq'), qc hST hq, cab_v3 hT hq, cab_v3 hC hq']
theorem sum_dsum (a b : MS) (n : Nat) : fs (fun q x => x + b.1 12 q) n 0 0 - fs (fun q x => x + a.1 12 q) n 0 0 = dsum a b n := by
  induction n with
  | zero => exact Int32.sub_self 0
  | succ n ih =>
    unfold dsum at ih ⊢
    rw [fs_snoc, fs_snoc, fs_snoc, Nat.zero_add, ← ih]
    generalize fs (fun q x => x + b.1 12 q) n 0 0 = p
    generalize fs (fun q x => x + a.1 12 q) n 0 0 = r
    rw [Int32.sub_eq_add_neg, Int32.sub_eq_add_neg, Int32.sub_eq_add_neg, Int32.neg_add, Int32.sub_eq_add_neg]
    simp only [Int32.add_assoc, Int32.add_comm, I_lc]
theorem pin160 (x : Int32) : p_X12_in G x.toInt64 (1 : Int64) (60 : Int64) w = some (if 1 ≤ x ∧ x ≤ 60 then 1 else 0, w) := p_in_i G x 1 60 w
end
