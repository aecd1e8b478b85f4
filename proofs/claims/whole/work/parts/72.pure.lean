/-! PURE 72: a rule's clauses; a mile by a rule. -/
def ent (v : VV) (r k : Nat) : EN := (v 43 (300 * r + k), v 44 (300 * r + k))
/-- a law of the class is the reference's rule r -/
def LawV (h : AH) (L : Nat) (v : VV) (r : Nat) : Prop := ∃ (n : Nat) (S T E : Nat → Nat), n ≤ 12 ∧ v 45 r = nI n ∧ S 0 = 0 ∧ S n ≤ 299 ∧ m_t h (L + 1) = .inr (.int, S n + n) ∧ ∀ c, c < n →
  v 46 (12 * r + c) = nI (S c) ∧ v 47 (12 * r + c) = nI (T c) ∧ v 48 (12 * r + c) = nI (E c) ∧ S c ≤ T c ∧ T c ≤ E c ∧ S (c + 1) = E c ∧ E c ≤ S n ∧
  tyR [] (seg (ent v r) (T c - S c) (S c)) = some [false] ∧ (T c = E c ∨ tyR [] (seg (ent v r) (E c - T c) (T c)) = some [true]) ∧
  (∀ k, S c ≤ k → k < E c → EV (ent v r k) ∧ m_i h (L + 1) (k + c) = encI (ent v r k)) ∧ m_i h (L + 1) (E c + c) = if T c = E c then -313 else -314
def heldI (x : Int64) : Int32 := if x < 0 then 0 else if x ≤ 5 then x.toInt32 else 5
theorem held_bd (x : Int64) : bd (heldI x) 0 5 := by
  unfold heldI
  have i0 : (0 : Int64).toInt = 0 := rfl
  have i5 : (5 : Int64).toInt = 5 := rfl
  split
  · exact ⟨by decide, by decide⟩
  · rename_i h1
    split
    · rename_i h2
      rw [Int64.lt_iff_toInt_lt, i0] at h1
      rw [Int64.le_iff_toInt_le, i5] at h2
      have : x.toInt32.toInt = x.toInt := by
        rw [Int64.toInt_toInt32]
        exact I_bm (by omega) (by omega)
      unfold bd; omega
    · exact ⟨by decide, by decide⟩
theorem c_heldHole (G : GG) (x : Int64) (h : AH) : f_X2_heldHole G x h = some (heldI x, h) := by
  unfold f_X2_heldHole heldI
  have i0 : (0 : Int64).toInt = 0 := rfl
  have i5 : (5 : Int64).toInt = 5 := rfl
  rw [u_nn, u_nn]
  by_cases h1 : x < 0
  · have h2 : x < 5 := by rw [Int64.lt_iff_toInt_lt, i0] at h1; rw [Int64.lt_iff_toInt_lt, i5]; omega
    rw [if_pos h2, if_pos h1, if_pos h1]; rfl
  · rw [if_neg h1]
    by_cases h2 : x ≤ 5
    · rw [if_pos h2]
      by_cases h3 : x < 5
      · rw [if_pos h3, if_neg h1]
      · have e : x = 5 := by
          rw [Int64.lt_iff_toInt_lt, i5] at h3
          rw [Int64.le_iff_toInt_le, i5] at h2
          rw [← Int64.toInt_inj, i5]; omega
        subst e; rfl
    · have h3 : ¬ x < 5 := by rw [Int64.le_iff_toInt_le, i5] at h2; rw [Int64.lt_iff_toInt_lt, i5]; omega
      rw [if_neg h3, if_neg h2]; rfl
theorem p_held5 (G : GG) (x : Int64) (w : MS) : p_X12_held G x 5 w = some (heldI x, w) := by
  unfold p_X12_held heldI
  have e5 : (5 : Int32).toInt64 = 5 := rfl
  rw [e5]
  simp only [lg_cmp_ge, lg_cmp_le]
  by_cases h1 : x < 0
  · rw [if_pos h1, if_neg (by rw [Int64.lt_iff_toInt_lt] at h1; rw [Int64.le_iff_toInt_le]; omega)]
  · rw [if_neg h1, if_pos (by rw [Int64.lt_iff_toInt_lt] at h1; rw [Int64.le_iff_toInt_le]; omega)]
    by_cases h2 : x ≤ 5
    · rw [if_pos h2, if_pos h2]
    · rw [if_neg h2, if_neg h2]
section
variable {G : GG} {h h0 : AH} {w w0 : MS} {c t L : Nat} {v : VV}
theorem tok1 {st : List Int64} {b : Bool} (h : tok [b] st) : ∃ x, st = [x] ∧ (b = true → x = 0 ∨ x = 1) := by
  match st, h with
  | [x], h => exact ⟨x, rfl, h.1⟩
  | [], h => exact h.elim
  | x :: y :: r, h => exact h.2.elim
theorem p_answer {ask : Nat → Int64} {r k E : Nat} (hr : r < 6) (hE3 : E ≤ 300) (hk : k ≤ E) {b : Bool} (hw : w.1 = w0.1) (h50 : ∀ i, i < 13 → w.2 50 i = ask i) (hty : tyR [] (seg (ent w0.1 r) (E - k) k) = some [b]) (hev : ∀ i, k ≤ i → i < E → EV (ent w0.1 r i)) : ∃ w2 x, p_X12_answer G (nI r) (nI k) (nI E) w = some (x, w2) ∧ evR ask [] (seg (ent w0.1 r) (E - k) k) = [x] ∧ (b = true → x = 0 ∨ x = 1) ∧ w2.1 = w0.1 ∧ ∀ i, i < 13 → w2.2 50 i = ask i := by
  obtain ⟨w2, f1, f2, f3, f4, f5⟩ := p_seg (G := G) (w0 := w0) (ask := ask) (es := ent w0.1 r) hr hE3 (fun (h_153 : MS) => (ck (ixn 300 (0 : Int32) = true) <| some (h_153.2 51 (0 : Int32).toNatClampNeg, h_153))) (E - k) k (bN - (E - k) - 1) [] [b] [] w hw h50 (by omega) hty (fun i hi => ⟨hev (k + i) (by omega) (by omega), rfl, rfl⟩) trivial (by decide) (fun i hi => absurd hi (by simp))
  obtain ⟨x, ex, hx⟩ := tok1 f5
  have hb := bN_gt (d := 1000000) (Nat.le_refl _)
  rw [show bN - (E - k) - 1 + (E - k) + 1 = bN by omega] at f1
  refine ⟨w2, x, ?_, ex, hx, f2, f3⟩
  unfold p_X12_answer
  refine (show _ = lw2 (P_X12_answer_6 G (nI r) (nI E) _) bN (nI ([] : List Int64).length) (nI k) w from rfl).trans (f1.trans ?_)
  rw [u_ck ix_300_0, tn_0]
  have := f4 0 (by rw [ex]; exact Nat.zero_lt_one)
  rw [ex] at this
  rw [this]; rfl
/-- the clauses from c on -/
theorem clauses (hC : Cab h0 c t v) (hS : St v) (hL : LaS h0 L) (hV : LV h0 L v) (hD : DjL L c t) {r : Nat} (hr : r < 6) (hv : w0.1 = v) {n : Nat} {S T E : Nat → Nat} (hn : n ≤ 12) (h45 : v 45 r = nI n) (hSn : S n ≤ 299) (hlen : m_t h0 (L + 1) = .inr (.int, S n + n)) (hcl : ∀ c, c < n →
  v 46 (12 * r + c) = nI (S c) ∧ v 47 (12 * r + c) = nI (T c) ∧ v 48 (12 * r + c) = nI (E c) ∧ S c ≤ T c ∧ T c ≤ E c ∧ S (c + 1) = E c ∧ E c ≤ S n ∧
  tyR [] (seg (ent v r) (T c - S c) (S c)) = some [false] ∧ (T c = E c ∨ tyR [] (seg (ent v r) (E c - T c) (T c)) = some [true]) ∧
  (∀ k, S c ≤ k → k < E c → EV (ent v r k) ∧ m_i h0 (L + 1) (k + c) = encI (ent v r k)) ∧ m_i h0 (L + 1) (E c + c) = if T c = E c then -313 else -314) : ∀ (d q f m : Nat) (h' : AH) (w' : MS), q + d = n → EI L h0 h' → SC h' L [] → w'.1 = v → (∀ i, i < 13 → w'.2 50 i = askL v i) → S n + n - (S q + q) < f → d < m → ∃ h2 w2 x, lq1 (F_X2_holeFor_12 G L c (fun (h_99 : AH) => (ck (m_t h_99 L = .inl 2) <| cb (f_X2_drop G L h_99) fun r61 h59 => cb (f_X2_heldHole G r61 h59) fun r64 h62 => some (r64, h62))) (fun (v5_141 : Int64) (h_141 : AH) => (cb (f_X2_heldHole G v5_141 h_141) fun r67 h65 => some (r67, h65)))) f (nI (S q + q)) h' = some (x, h2) ∧ lw1 (P_X12_pulled_13 G (nI r) (fun (h_98 : MS) => (ck (ixn 17 (13 : Int32) = true) <| some (h_98.1 1 (13 : Int32).toNatClampNeg, h_98))) (fun (v2_70 : Int32) (h_70 : MS) => (ck (ixn 72 v2_70 = true) <| ck (ixn 72 v2_70 = true) <| cw (p_X12_answer G (nI r) (h_70.1 46 v2_70.toNatClampNeg) (h_70.1 47 v2_70.toNatClampNeg) h_70) fun r22 w20 => cw (p_X12_held G r22 (5 : Int32) w20) fun r25 w23 => some (r25, w23)))) m (nI (12 * r + q)) w' = some (x, w2) ∧ EI L h0 h2 ∧ w2.1 = v ∧ bd x 0 5
  | 0, q, f + 1, m + 1, h', w', e, hE, hs, hw, h50, hf, hm => by
    have eq : q = n := by omega
    subst eq
    have hL' := hE.la hL
    have hC' := hE.cab hC (st_N8 hS) hD
    have hn' : m_t h' (L + 1) = .inr (.int, S q + q) := by rw [hE.1]; exact hlen
    refine ⟨h', w', v 1 13, ?_, ?_, hE, hw, st_hole hS⟩
    · show F_X2_holeFor_12 G L c _ _ _ _ _ = _
      rw [F_X2_holeFor_12, u_ck hL'.1, hL'.2.1, u_ob, alb_e hn', u_ob, if_pos (nI_le (Nat.le_refl _) (by omega)), u_ck (cab_t hC'), cab_i2 hC']
    · show P_X12_pulled_13 G (nI r) _ _ _ _ _ = _
      have e12 : (12 : Int32) * nI r + nI q = nI (12 * r + q) := by rw [show (12 : Int32) = nI 12 from rfl, pk_mul, nI_add]
      rw [P_X12_pulled_13, if_neg (nI_m1 (by omega)), u_ck (u_ixn hr (by decide)), nI_clamp (by omega), hw, h45, e12, if_pos (nI_le (Nat.le_refl _) (by omega)), u_ck ix_17_13, tn_13]
  | d + 1, q, f, m + 1, h', w', e, hE, hs, hw, h50, hf, hm => by
    obtain ⟨c46, c47, c48, hST, hTE, hSE, hEn, ty1, ty2, hev, hlast⟩ := hcl q (by omega)
    have e12 : (12 : Int32) * nI r + nI n = nI (12 * r + n) := by rw [show (12 : Int32) = nI 12 from rfl, pk_mul, nI_add]
    -- the class: the sum
    obtain ⟨f1, hf1⟩ : ∃ f1, f = f1 + (T q - S q) := ⟨f - (T q - S q), by omega⟩
    obtain ⟨ha, a1, a2, a3, a4⟩ := c_seg (G := G) hC hS hL hV hD hlen (by omega) (es := ent v r) (base := []) (by decide) (fun (h_99 : AH) => (ck (m_t h_99 L = .inl 2) <| cb (f_X2_drop G L h_99) fun r61 h59 => cb (f_X2_heldHole G r61 h59) fun r64 h62 => some (r64, h62))) (fun (v5_141 : Int64) (h_141 : AH) => (cb (f_X2_heldHole G v5_141 h_141) fun r67 h65 => some (r67, h65))) (T q - S q) (S q) (S q + q) f1 [] [false] [] h' hE ty1 (fun i hi => ⟨(hev (S q + i) (by omega) (by omega)).1, by
      have := (hev (S q + i) (by omega) (by omega)).2
      rw [show S q + q + i = S q + i + q by omega]; exact this, by omega⟩) trivial (by decide) (by simpa using hs)
    obtain ⟨sm, esm, -⟩ := tok1 a4
    rw [esm] at a3
    rw [show S q + q + (T q - S q) = T q + q by omega] at a1
    have hSq : S (q + 1) + (q + 1) = E q + q + 1 := by omega
    have hmono : E q + q < S n + n := by omega
    have ref0 : ∀ self, P_X12_pulled_13 G (nI r) (fun (h_98 : MS) => (ck (ixn 17 (13 : Int32) = true) <| some (h_98.1 1 (13 : Int32).toNatClampNeg, h_98))) (fun (v2_70 : Int32) (h_70 : MS) => (ck (ixn 72 v2_70 = true) <| ck (ixn 72 v2_70 = true) <| cw (p_X12_answer G (nI r) (h_70.1 46 v2_70.toNatClampNeg) (h_70.1 47 v2_70.toNatClampNeg) h_70) fun r22 w20 => cw (p_X12_held G r22 (5 : Int32) w20) fun r25 w23 => some (r25, w23))) self (nI (12 * r + q)) w' = _ := fun self => by
      rw [P_X12_pulled_13, if_neg (nI_m1 (by omega)), u_ck (u_ixn hr (by decide)), nI_clamp (n := r) (by omega), hw, h45, e12, if_neg (nI_ge (by omega) (by omega)), u_ck (u_ixn (by omega) (by decide)), u_ck (u_ixn (by omega) (by decide)), nI_clamp (n := 12 * r + q) (by omega), c47, c48]
    have refS : ∀ W : MS, W.1 = v → (∀ i, i < 13 → W.2 50 i = askL v i) → ∃ w2, p_X12_answer G (nI r) (nI (S q)) (nI (T q)) W = some (sm, w2) ∧ w2.1 = v := fun W hW hW50 => by
      obtain ⟨w2, x, g1, g2, -, g4, -⟩ := p_answer (G := G) (w := W) (w0 := w0) (ask := askL v) (r := r) (k := S q) (E := T q) hr (by omega) hST (by rw [hW, hv]) hW50 (by rw [hv]; exact ty1) (fun i h1 h2 => by rw [hv]; exact (hev i h1 (by omega)).1)
      rw [hv, esm] at g2
      have : sm = x := by simpa using g2
      subst this
      exact ⟨w2, g1, by rw [g4, hv]⟩
    by_cases hte : T q = E q
    · -- no test
      rw [if_pos hte] at hlast
      obtain ⟨w2, r1, r2⟩ := refS w' hw h50
      have a2' := a2
      obtain ⟨hb, b1, b2, b3⟩ := c_pop (G := G) hL a2 (st := []) (x := sm) (by simpa using a3) (by decide)
      have hLa := a2.la hL
      have hna : m_t ha (L + 1) = .inr (.int, S n + n) := by rw [a2.1]; exact hlen
      have hca : m_i ha (L + 1) (T q + q) = -313 := by rw [a2.2.2.2.1 (L + 1) (by omega), hte]; exact hlast
      obtain ⟨f2, rfl⟩ : ∃ f2, f1 = f2 + 1 := ⟨f1 - 1, by omega⟩
      refine ⟨hb, w2, heldI sm, ?_, ?_, b2, r2, held_bd _⟩
      · rw [hf1, a1]
        show F_X2_holeFor_12 G L c _ _ _ _ _ = _
        rw [F_X2_holeFor_12, u_ck hLa.1, hLa.2.1, u_ob, alb_e hna, u_ob, if_neg (nI_ge (by omega) (by omega)), u_ob, u_ck (ixb_e hna (by omega) (by omega)), u_nn, nI_clamp (by omega), hca, u_nn, if_pos (by decide), u_nn, if_neg (by decide), if_pos (by decide)]
        dsimp only
        rw [if_neg (by decide), if_pos rfl, u_ck hLa.1, b1, u_cb, c_heldHole, u_cb]
      · show P_X12_pulled_13 G (nI r) _ _ _ _ _ = _
        rw [ref0, if_pos (by rw [hte]), u_ck (u_ixn (by omega) (by decide)), u_ck (u_ixn (by omega) (by decide)), c46, r1, u_cw, p_held5, u_cw]
    · -- a test
      rw [if_neg hte] at hlast
      have ty2' : tyR [] (seg (ent v r) (E q - T q) (T q)) = some [true] := ty2.resolve_left hte
      obtain ⟨f2, hf2⟩ : ∃ f2, f1 = f2 + 1 + (E q - T q) := ⟨f1 - 1 - (E q - T q), by omega⟩
      obtain ⟨hb, b1, b2, b3, b4⟩ := c_seg (G := G) hC hS hL hV hD hlen (by omega) (es := ent v r) (base := [sm]) (show 1 ≤ 2 by decide) (fun (h_99 : AH) => (ck (m_t h_99 L = .inl 2) <| cb (f_X2_drop G L h_99) fun r61 h59 => cb (f_X2_heldHole G r61 h59) fun r64 h62 => some (r64, h62))) (fun (v5_141 : Int64) (h_141 : AH) => (cb (f_X2_heldHole G v5_141 h_141) fun r67 h65 => some (r67, h65))) (E q - T q) (T q) (T q + q) (f2 + 1) [] [true] [] ha a2 ty2' (fun i hi => ⟨(hev (T q + i) (by omega) (by omega)).1, by
        have := (hev (T q + i) (by omega) (by omega)).2
        rw [show T q + q + i = T q + i + q by omega]; exact this, by omega⟩) trivial (by decide) (by simpa using a3)
      obtain ⟨te, ete, hte01⟩ := tok1 b4
      rw [ete] at b3
      rw [show T q + q + (E q - T q) = E q + q by omega] at b1
      obtain ⟨hc, k1, k2, k3⟩ := c_pop (G := G) hL b2 (st := [sm]) (x := te) (by simpa using b3) (show 1 < 64 by decide)
      obtain ⟨hd, l1, l2, l3⟩ := c_pop (G := G) hL k2 (st := []) (x := sm) k3 (by decide)
      have hLb := b2.la hL
      have hLc := k2.la hL
      have hnb : m_t hb (L + 1) = .inr (.int, S n + n) := by rw [b2.1]; exact hlen
      have hcb : m_i hb (L + 1) (E q + q) = -314 := by rw [b2.2.2.2.1 (L + 1) (by omega)]; exact hlast
      obtain ⟨w2, x, g1, g2, -, g4, g5⟩ := p_answer (G := G) (w := w') (w0 := w0) (ask := askL v) (r := r) (k := T q) (E := E q) hr (by omega) hTE (by rw [hw, hv]) h50 (by rw [hv]; exact ty2') (fun i h1 h2 => by rw [hv]; exact (hev i (by omega) h2).1)
      rw [hv, ete] at g2
      have : te = x := by simpa using g2
      subst this
      have hneq : ¬ nI (T q) = nI (E q) := fun e => hte ((nI_eq (by omega) (by omega)).mp e)
      have step : ∀ self, F_X2_holeFor_12 G L c (fun (h_99 : AH) => (ck (m_t h_99 L = .inl 2) <| cb (f_X2_drop G L h_99) fun r61 h59 => cb (f_X2_heldHole G r61 h59) fun r64 h62 => some (r64, h62))) (fun (v5_141 : Int64) (h_141 : AH) => (cb (f_X2_heldHole G v5_141 h_141) fun r67 h65 => some (r67, h65))) self (nI (E q + q)) hb = if te = 0 then self (nI (E q + q) + 1) hd else some (heldI sm, hd) := fun self => by
        rw [F_X2_holeFor_12, u_ck hLb.1, hLb.2.1, u_ob, alb_e hnb, u_ob, if_neg (nI_ge (by omega) (by omega)), u_ob, u_ck (ixb_e hnb (by omega) (by omega)), u_nn, nI_clamp (by omega), hcb, u_nn, if_pos (by decide), u_nn, if_neg (by decide), if_pos (by decide)]
        dsimp only
        rw [if_neg (by decide), if_neg (by decide), if_pos rfl, k1, u_cb, u_nn]
        simp only [lg_cmp_eq]
        by_cases ht0 : te = 0
        · rw [if_pos ht0, if_pos ht0, u_ck hLc.1, l1, u_cb, if_pos trivial]; rfl
        · rw [if_neg ht0, if_neg ht0, u_ck hLc.1, l1, u_cb, if_neg (by decide), c_heldHole, u_cb]
      by_cases ht0 : te = 0
      · obtain ⟨h3, w3, x, p1, p2, p3, p4, p5⟩ := clauses hC hS hL hV hD hr hv hn h45 hSn hlen hcl d (q + 1) f2 m hd w2 (by omega) l2 l3 (by rw [g4, hv]) g5 (by omega) (by omega)
        refine ⟨h3, w3, x, ?_, ?_, p3, p4, p5⟩
        · rw [hf1, a1, hf2, b1]
          show F_X2_holeFor_12 G L c _ _ _ _ _ = _
          rw [step, if_pos ht0, nI_1, ← hSq]; exact p1
        · show P_X12_pulled_13 G (nI r) _ _ _ _ _ = _
          rw [ref0, if_neg hneq, u_ck (u_ixn (by omega) (by decide)), u_ck (u_ixn (by omega) (by decide)), g1, u_cw]
          simp only [lg_cmp_eq]
          rw [if_neg (by rw [ht0]; decide), u_nn, nI_1]; exact p2
      · have ht1 : te = 1 := (hte01 rfl).resolve_left ht0
        obtain ⟨w3, r1, r2⟩ := refS w2 (by rw [g4, hv]) g5
        refine ⟨hd, w3, heldI sm, ?_, ?_, l2, r2, held_bd _⟩
        · rw [hf1, a1, hf2, b1]
          show F_X2_holeFor_12 G L c _ _ _ _ _ = _
          rw [step, if_neg ht0]
        · show P_X12_pulled_13 G (nI r) _ _ _ _ _ = _
          rw [ref0, if_neg hneq, u_ck (u_ixn (by omega) (by decide)), u_ck (u_ixn (by omega) (by decide)), g1, u_cw]
          simp only [lg_cmp_eq]
          rw [if_pos ht1, u_ck (u_ixn (by omega) (by decide)), u_ck (u_ixn (by omega) (by decide)), g4, hv, c46, c47, r1, u_cw, p_held5, u_cw]
end
