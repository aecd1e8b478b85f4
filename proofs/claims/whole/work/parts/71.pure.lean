/-! PURE 71: steps, segments, clauses; the hole that a rule says. -/
theorem word_all : ∀ i : Nat, i < 13 → (-((300 : Int32) + nI i) < 0) ∧ ¬ (-(-((300 : Int32) + nI i)) < 300) ∧ ¬ ((312 : Int32) < -(-((300 : Int32) + nI i))) ∧ -(-((300 : Int32) + nI i)) = nI (300 + i) := by decide
theorem op_enc {k x : Int32} (hk : isOp k) : encI (k, x) < 0 ∧ (-(encI (k, x)) < 300 ∨ (¬ -(encI (k, x)) < 300 ∧ (312 : Int32) < -(encI (k, x)))) ∧ encI (k, x) ≠ -317 ∧ encI (k, x) ≠ -313 ∧ encI (k, x) ≠ -314 ∧ encI (k, x) = encI (k, 0) := by
  have e : encI (k, x) = encI (k, 0) := by
    rcases hk with rfl | rfl | rfl | rfl | rfl | rfl | rfl | rfl | rfl | rfl | rfl | rfl <;> rfl
  rw [e]
  rcases hk with rfl | rfl | rfl | rfl | rfl | rfl | rfl | rfl | rfl | rfl | rfl | rfl <;> decide
theorem op_no {k : Int32} (hk : isOp k) : ¬ k = 0 ∧ ¬ k = 1 ∧ ¬ k = 9 := by
  rcases hk with rfl | rfl | rfl | rfl | rfl | rfl | rfl | rfl | rfl | rfl | rfl | rfl <;> decide
section
variable {G : GG} {h h0 : AH} {w w0 : MS} {c t L : Nat} {v : VV}
theorem EI.cab {h' : AH} (hE : EI L h0 h') (hC : Cab h0 c t v) (hN : sN v ≤ 8) (hD : DjL L c t) : Cab h' c t v :=
  hC.hp hN (fun a ha => ⟨by rw [hE.1], by rw [hE.2.1], hE.2.2.2.1 a (by unfold DjL at hD; omega)⟩)
theorem EI.lv {h' : AH} (hE : EI L h0 h') (hV : LV h0 L v) : LV h' L v := by
  unfold LV at hV ⊢
  rw [hE.2.2.2.1 (L + 3) (by omega), hE.2.2.2.2.2 4 (by decide), hE.2.2.2.2.2 5 (by decide), hE.2.2.2.2.2 6 (by decide)]
  exact hV
theorem EI.tr {h1 h2 : AH} (a : EI L h0 h1) (b : EI L h1 h2) : EI L h0 h2 :=
  ⟨b.1.trans a.1, b.2.1.trans a.2.1, b.2.2.1.trans a.2.2.1, fun q hq => (b.2.2.2.1 q hq).trans (a.2.2.2.1 q hq), fun q hq => (b.2.2.2.2.1 q hq).trans (a.2.2.2.2.1 q hq), fun q hq => (b.2.2.2.2.2 q hq).trans (a.2.2.2.2.2 q hq)⟩
def askL (v : VV) (i : Nat) : Int64 := (askV v i).toInt64
theorem c_step (hC : Cab h0 c t v) (hS : St v) (hL : LaS h0 L) (hV : LV h0 L v) (hD : DjL L c t) {h' : AH} (hE : EI L h0 h') {p n : Nat} {e : EN} (hv : EV e) (hn : m_t h0 (L + 1) = .inr (.int, n)) (hn4 : n ≤ 400) (hcode : m_i h0 (L + 1) p = encI e) (hp : p < n) {ts ts' : List Bool} {st base : List Int64} (ht : tok ts st) (hty : tyS ts e = some ts') (hts : ts.length ≤ 60) (hb : base.length ≤ 2) (hs : SC h' L (st ++ base)) : ∃ h2, (∀ K K' self, F_X2_holeFor_12 G L c K K' self (nI p) h' = self (nI p + 1) h2) ∧ EI L h0 h2 ∧ SC h2 L (evS (askL v) st e ++ base) := by
  have hL' := hE.la hL
  have hn' : m_t h' (L + 1) = .inr (.int, n) := by rw [hE.1]; exact hn
  have hcode' : m_i h' (L + 1) p = encI e := by rw [hE.2.2.2.1 (L + 1) (by omega)]; exact hcode
  have hl := tok_len ht
  have hlen : (st ++ base).length < 64 := by rw [List.length_append]; omega
  have pre : ∀ K K' self, F_X2_holeFor_12 G L c K K' self (nI p) h' = _ := fun K K' self => by
    rw [F_X2_holeFor_12, u_ck hL'.1, hL'.2.1, u_ob, alb_e hn', u_ob, if_neg (nI_ge hp (by omega)), u_ob, u_ck (ixb_e hn' hp (by omega)), u_nn, nI_clamp (by omega), hcode', u_nn]
  rcases hv with ⟨e0, h1⟩ | ⟨e1, i, hi, h1⟩ | e9 | hop
  · have ee : encI e = e.2 := by unfold encI; rw [if_pos e0]
    obtain ⟨h2, f1, f2, f3⟩ := c_push (G := G) hL hE hs hlen e.2.toInt64
    refine ⟨h2, fun K K' self => ?_, f2, by rw [evS_0 e0]; exact f3⟩
    rw [pre, ee, if_neg (by rw [I_lt]; rw [I_le] at h1; omega), f1]; rfl
  · have ee : encI e = -(300 + nI i) := by unfold encI; rw [if_neg (by rw [e1]; decide), if_pos e1, h1]
    have hw := word_all i hi
    obtain ⟨h2, f1, f2, f3⟩ := c_push (G := G) hL hE hs hlen (askL v i)
    refine ⟨h2, fun K K' self => ?_, f2, ?_⟩
    · rw [pre, ee, if_pos hw.1, u_nn, if_neg hw.2.1, if_neg hw.2.2.1, hw.2.2.2, c_valueOf (hE.cab hC (st_N8 hS) hD) hS hL' (hE.lv hV) hi, u_cb, u_ck hL'.1]
      rw [show f_X2_stack G L (askV v i).toInt64 h' = some h2 from f1]; rfl
    · rw [evS_1 e1, h1, nI_clamp (by omega)]; exact f3
  · have ee : encI e = -317 := by unfold encI; rw [e9]; rfl
    unfold tyS at hty
    rw [if_neg (by rw [e9]; decide)] at hty
    match ts, st, ht, hty with
    | [], [], _, hty => cases hty
    | a :: r, x :: xs, ht, hty =>
      have hxs : (xs ++ base).length < 64 := by rw [List.cons_append, List.length_cons] at hlen; omega
      obtain ⟨ha, f1, f2, f3⟩ := c_pop (G := G) hL hE (st := xs ++ base) (x := x) hs hxs
      obtain ⟨hb', g1, g2, g3⟩ := c_push (G := G) hL f2 f3 hxs (1 - x)
      refine ⟨hb', fun K K' self => ?_, g2, by rw [evS_9 e9]; exact g3⟩
      rw [pre, ee, if_pos (by decide), u_nn, if_neg (by decide), if_pos (by decide)]
      dsimp only
      rw [if_pos rfl, f1, u_cb, u_ck (by rw [f2.1]; exact hL.1), g1]; rfl
  · obtain ⟨n0, n1, n9⟩ := op_no hop
    obtain ⟨o1, o2, o3, o4, o5, o6⟩ := op_enc (x := e.2) hop
    unfold tyS at hty
    rw [if_neg (fun q => q.elim n0 n1)] at hty
    match ts, st, ht, hty with
    | [], [], _, hty => cases hty
    | [a], [x], ht, hty => simp only [if_neg n9] at hty; cases hty
    | a :: b :: r, x :: y :: xs, ht, hty =>
      have hxs : (xs ++ base).length + 1 < 64 := by simp only [List.cons_append, List.length_cons] at hlen; omega
      obtain ⟨ha, f1, f2, f3⟩ := c_pop (G := G) hL hE (st := y :: (xs ++ base)) (x := x) hs (by simpa using hxs)
      obtain ⟨hb', g1, g2, g3⟩ := c_pop (G := G) hL f2 (st := xs ++ base) (x := y) f3 (by omega)
      obtain ⟨hc, k1, k2, k3⟩ := c_push (G := G) hL g2 g3 (by omega) (bothI e.1 y x)
      refine ⟨hc, fun K K' self => ?_, k2, by rw [evS_b n0 n1 n9]; exact k3⟩
      have body : (cb (f_X2_drop G L h') fun r37 h35 => ck (m_t h35 L = .inl 2) <| cb (f_X2_drop G L h35) fun r41 h39 => cb (f_X2_joined G r41 (-(encI e)) r37 h39) fun r44 h42 => ck (m_t h42 L = .inl 2) <| ob (f_X2_stack G L r44 h42) fun h46 => self (nI p + 1) h46) = self (nI p + 1) hc := by
        rw [f1, u_cb, u_ck (by rw [f2.1]; exact hL.1), g1, u_cb, show encI e = encI (e.1, 0) from o6, c_joined e.1 hop, u_cb, u_ck (by rw [g2.1]; exact hL.1), k1]; rfl
      have o3' : ¬ encI e = -317 := o3
      have o4' : ¬ encI e = -313 := o4
      have o5' : ¬ encI e = -314 := o5
      rw [pre, if_pos (show encI e < 0 from o1), u_nn]
      rcases o2 with o2 | ⟨o2, o2'⟩
      · rw [if_pos (show -(encI e) < 300 from o2)]
        dsimp only
        rw [if_neg o3', if_neg o4', if_neg o5']
        exact body
      · rw [if_neg (show ¬ -(encI e) < 300 from o2), if_pos (show (312 : Int32) < -(encI e) from o2')]
        dsimp only
        rw [if_neg o3', if_neg o4', if_neg o5']
        exact body
theorem p_step {w' : MS} (hw : w'.1 = w0.1) {ask : Nat → Int64} (h50 : ∀ i, i < 13 → w'.2 50 i = ask i) {r k E : Nat} {e : EN} (hr : r < 6) (hk : k < 300) (hkE : k < E) (hE : E ≤ 300) (hv : EV e) (he1 : w0.1 43 (300 * r + k) = e.1) (he2 : w0.1 44 (300 * r + k) = e.2) {ts ts' : List Bool} {st : List Int64} (ht : tok ts st) (hty : tyS ts e = some ts') (hts : ts.length ≤ 60) (hs : SR w' st) : ∃ w2, (∀ K self, P_X12_answer_6 G (nI r) (nI E) K self (nI st.length) (nI k) w' = self (nI (evS ask st e).length) (nI k + 1) w2) ∧ w2.1 = w0.1 ∧ (∀ i, i < 13 → w2.2 50 i = ask i) ∧ SR w2 (evS ask st e) := by
  have hl := tok_len ht
  have ix : ((300 : Int32) * nI r) + nI k = nI (300 * r + k) := by
    rw [show (300 : Int32) = nI 300 from rfl, pk_mul, nI_add]
  have pre : ∀ K self, P_X12_answer_6 G (nI r) (nI E) K self (nI st.length) (nI k) w' = _ := fun K self => by
    rw [P_X12_answer_6, if_neg (nI_ge hkE (by omega)), ix, u_ck (u_ixn (by omega) (by decide)), u_nn, u_ck (u_ixn (by omega) (by decide)), u_nn, nI_clamp (n := 300 * r + k) (by omega), hw, he1, he2, u_nn, u_nn]
  have sp : ∀ (x : Int64) (xs : List Int64) (W : MS), W.1 = w0.1 → (∀ i, i < 13 → W.2 50 i = ask i) → SR W xs → (w_sl W 51 xs.length x).1 = w0.1 ∧ (∀ i, i < 13 → (w_sl W 51 xs.length x).2 50 i = ask i) ∧ SR (w_sl W 51 xs.length x) (x :: xs) := by
    intro x xs W h1 h2 h3
    refine ⟨h1, fun i hi => by rw [w_sl_e, if_neg (fun q => absurd q.1 (by decide))]; exact h2 i hi, fun i hi => ?_⟩
    simp only [List.length_cons] at hi
    rw [w_sl_e, rev_push]
    by_cases hq : i = xs.length
    · rw [if_pos ⟨rfl, hq⟩, if_neg (by omega), if_pos hq]
    · rw [if_neg (fun q => hq q.2), if_pos (by omega)]; exact h3 i (by omega)
  rcases hv with ⟨e0, h1⟩ | ⟨e1, i, hi, h1⟩ | e9 | hop
  · obtain ⟨g1, g2, g3⟩ := sp e.2.toInt64 st w' hw h50 hs
    refine ⟨_, fun K self => ?_, g1, g2, by rw [evS_0 e0]; exact g3⟩
    rw [pre, e0, if_pos rfl]
    dsimp only
    rw [u_nn, if_pos rfl]
    dsimp only
    rw [u_ck (u_ixn (by omega) (by decide)), u_nn, u_nn, nI_clamp (by omega), nI_1 st.length, evS_0 e0]; rfl
  · obtain ⟨g1, g2, g3⟩ := sp (ask i) st w' hw h50 hs
    refine ⟨_, fun K self => ?_, g1, g2, by rw [evS_1 e1, h1, nI_clamp (by omega)]; exact g3⟩
    rw [pre, e1, if_neg (by decide), if_pos rfl]
    dsimp only
    rw [u_nn, if_neg (by decide), h1, u_ck (u_ixn (by omega) (by decide)), nI_clamp (n := i) (by omega), h50 i hi]
    dsimp only
    rw [u_ck (u_ixn (by omega) (by decide)), u_nn, u_nn, nI_clamp (by omega), nI_1 st.length, evS_1 e1]; rfl
  · unfold tyS at hty
    rw [if_neg (by rw [e9]; decide)] at hty
    cases ts with
    | nil => cases hty
    | cons a r' =>
     cases st with
     | nil => exact ht.elim
     | cons x xs =>
      have hx : w'.2 51 xs.length = x := by rw [hs xs.length (by simp), rev_push, if_neg (by omega), if_pos rfl]
      have hs' : SR w' xs := fun i hi => by rw [hs i (by simp; omega), rev_push, if_pos hi]
      obtain ⟨g1, g2, g3⟩ := sp (1 - x) xs w' hw h50 hs'
      simp only [List.length_cons] at hts hl
      refine ⟨_, fun K self => ?_, g1, g2, by rw [evS_9 e9]; exact g3⟩
      rw [pre, e9, if_neg (by decide), if_neg (by decide), if_pos rfl, List.length_cons, nI_pred, u_ck (u_ixn (by omega) (by decide)), u_ck (u_ixn (by omega) (by decide)), u_nn, nI_clamp (by omega), hx, evS_9 e9]; rfl
  · obtain ⟨n0, n1, n9⟩ := op_no hop
    unfold tyS at hty
    rw [if_neg (fun q => q.elim n0 n1)] at hty
    cases ts with
    | nil => cases hty
    | cons a r1 =>
     cases r1 with
     | nil => simp only [if_neg n9] at hty; cases hty
     | cons b r' =>
     cases st with
     | nil => exact ht.elim
     | cons x st1 =>
     cases st1 with
     | nil => exact ht.2.elim
     | cons y xs =>
      have hx : w'.2 51 (xs.length + 1) = x := by rw [hs (xs.length + 1) (by simp), rev_push, if_neg (by simp), if_pos (by simp)]
      have hs1 : SR w' (y :: xs) := fun i hi => by rw [hs i (by simp at hi ⊢; omega), rev_push, if_pos hi]
      have hy : w'.2 51 xs.length = y := by rw [hs1 xs.length (by simp), rev_push, if_neg (by omega), if_pos rfl]
      have hs' : SR w' xs := fun i hi => by rw [hs1 i (by simp; omega), rev_push, if_pos hi]
      obtain ⟨g1, g2, g3⟩ := sp (bothI e.1 y x) xs w' hw h50 hs'
      simp only [List.length_cons] at hts hl
      refine ⟨_, fun K self => ?_, g1, g2, by rw [evS_b n0 n1 n9]; exact g3⟩
      rw [pre, if_neg n0, if_neg n1, if_neg n9, List.length_cons, List.length_cons, pk_m1, u_nn, nI_pred, u_ck (u_ixn (by omega) (by decide)), u_ck (u_ixn (by omega) (by decide)), nI_clamp (by omega), nI_clamp (by omega), hx, hy, p_both e.1 hop, u_cw, u_ck (u_ixn (by omega) (by decide)), u_nn, evS_b n0 n1 n9]; rfl
theorem c_seg (hC : Cab h0 c t v) (hS : St v) (hL : LaS h0 L) (hV : LV h0 L v) (hD : DjL L c t) {len : Nat} (hn : m_t h0 (L + 1) = .inr (.int, len)) (hn4 : len ≤ 400) {es : Nat → EN} {base : List Int64} (hb : base.length ≤ 2) (K K') : ∀ (d k p n : Nat) (ts ts' : List Bool) (st : List Int64) (h' : AH), EI L h0 h' → tyR ts (seg es d k) = some ts' → (∀ i, i < d → EV (es (k + i)) ∧ m_i h0 (L + 1) (p + i) = encI (es (k + i)) ∧ p + i < len) → tok ts st → ts.length ≤ 60 → SC h' L (st ++ base) → ∃ h2, lq1 (F_X2_holeFor_12 G L c K K') (n + d) (nI p) h' = lq1 (F_X2_holeFor_12 G L c K K') n (nI (p + d)) h2 ∧ EI L h0 h2 ∧ SC h2 L (evR (askL v) st (seg es d k) ++ base) ∧ tok ts' (evR (askL v) st (seg es d k))
  | 0, k, p, n, ts, ts', st, h', hE, hty, _, ht, _, hs => by
    have : ts = ts' := by simpa [tyR, seg] using hty
    subst this
    exact ⟨h', rfl, hE, hs, ht⟩
  | d + 1, k, p, n, ts, ts', st, h', hE, hty, hev, ht, hts, hs => by
    simp only [seg, tyR] at hty
    cases e1 : tyS ts (es k) with
    | none => rw [e1] at hty; cases hty
    | some u =>
      rw [e1] at hty
      simp only at hty
      obtain ⟨v1, v2, v3⟩ := hev 0 (by omega)
      simp only [Nat.add_zero] at v1 v2 v3
      obtain ⟨h2, f1, f2, f3⟩ := c_step (G := G) hC hS hL hV hD hE v1 hn hn4 v2 v3 ht e1 hts hb hs
      obtain ⟨h3, g1, g2, g3, g4⟩ := c_seg hC hS hL hV hD hn hn4 hb K K' d (k + 1) (p + 1) n u ts' (evS (askL v) st (es k)) h2 f2 hty (fun i hi => by
        have := hev (i + 1) (by omega)
        rw [show k + (i + 1) = k + 1 + i by omega, show p + (i + 1) = p + 1 + i by omega] at this
        exact this) (ev_ty ht e1).1 (tyS_le e1 hts) f3
      refine ⟨h3, ?_, g2, g3, g4⟩
      show F_X2_holeFor_12 G L c K K' (lq1 (F_X2_holeFor_12 G L c K K') (n + d)) (nI p) h' = _
      rw [f1, nI_1, g1, show p + 1 + d = p + (d + 1) by omega]
theorem p_seg {ask : Nat → Int64} {es : Nat → EN} {r E : Nat} (hr : r < 6) (hE3 : E ≤ 300) (K) : ∀ (d k n : Nat) (ts ts' : List Bool) (st : List Int64) (w' : MS), w'.1 = w0.1 → (∀ i, i < 13 → w'.2 50 i = ask i) → k + d = E → tyR ts (seg es d k) = some ts' → (∀ i, i < d → EV (es (k + i)) ∧ w0.1 43 (300 * r + (k + i)) = (es (k + i)).1 ∧ w0.1 44 (300 * r + (k + i)) = (es (k + i)).2) → tok ts st → ts.length ≤ 60 → SR w' st → ∃ w2, lw2 (P_X12_answer_6 G (nI r) (nI E) K) (n + d + 1) (nI st.length) (nI k) w' = K w2 ∧ w2.1 = w0.1 ∧ (∀ i, i < 13 → w2.2 50 i = ask i) ∧ SR w2 (evR ask st (seg es d k)) ∧ tok ts' (evR ask st (seg es d k))
  | 0, k, n, ts, ts', st, w', hw, h50, hk, hty, _, ht, _, hs => by
    have : ts = ts' := by simpa [tyR, seg] using hty
    subst this
    refine ⟨w', ?_, hw, h50, hs, ht⟩
    show P_X12_answer_6 G (nI r) (nI E) K _ _ _ _ = _
    rw [P_X12_answer_6, if_pos (nI_le (by omega) (by omega))]
  | d + 1, k, n, ts, ts', st, w', hw, h50, hk, hty, hev, ht, hts, hs => by
    simp only [seg, tyR] at hty
    cases e1 : tyS ts (es k) with
    | none => rw [e1] at hty; cases hty
    | some u =>
      rw [e1] at hty
      simp only at hty
      obtain ⟨v1, v2, v3⟩ := hev 0 (by omega)
      simp only [Nat.add_zero] at v1 v2 v3
      obtain ⟨w2, f1, f2, f3, f4⟩ := p_step (G := G) hw h50 hr (k := k) (E := E) (by omega) (by omega) hE3 v1 v2 v3 ht e1 hts hs
      obtain ⟨w3, g1, g2, g3, g4, g5⟩ := p_seg hr hE3 K d (k + 1) n u ts' (evS ask st (es k)) w2 f2 f3 (by omega) hty (fun i hi => by
        have := hev (i + 1) (by omega)
        rw [show k + (i + 1) = k + 1 + i by omega] at this
        exact this) (ev_ty ht e1).1 (tyS_le e1 hts) f4
      refine ⟨w3, ?_, g2, g3, g4, g5⟩
      show P_X12_answer_6 G (nI r) (nI E) K (lw2 (P_X12_answer_6 G (nI r) (nI E) K) (n + d + 1)) _ _ _ = _
      rw [f1, nI_1]; exact g1
end
