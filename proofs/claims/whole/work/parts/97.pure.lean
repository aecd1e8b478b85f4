/-! PURE 97: journeys, the call. -/
section
variable {G : GG} {own : Nat → Nat} {R X c t U : Nat} {h h0 h1 h2 h' : AH} {w w0 w' w1 w2 w3 wk : MS} {v v' v0 : VV} {law : Option Nat}
theorem js_both (hR : RelO own R h X w) (told : w.1 1 0 = 1) (k1 : p_X12_keepsAll G w = some wk) {M N : Nat} {pct what : Int32} (hN : N ≤ 240) (hm : (w.1 1 10).toInt + N ≤ 240) (hM : M ≤ 100) : ∀ (d k : Nat) (a b D : Int32) (h' : AH) (w' : MS), k + d = M → FrQ X R h h' → JW w wk w' → m_i h' X 12 = D → 0 ≤ D → ∃ a2 b2 h2 w2, (∀ (K : Int32 → Int32 → AH → Option (Int32 × AH)) (n : Nat), d < n → lq3 (F_X11_journeys_66 G X (nI M) (nI N) pct what K) n a b (nI k) h' = K a2 b2 h2) ∧ (∀ (v5 : Int32) (K : Int32 → MS → Option (Int32 × MS)) (n : Nat), d < n → lw3 (P_X12_journeys_87 G (nI M) (nI N) pct what v5 K) n D (if what = 0 then a else b) (nI k) w' = K (if what = 0 then a2 else b2) w2) ∧ FrQ X R h h2 ∧ JW w wk w2
  | 0, k, a, b, D, h', w', e, hF, hW, hD, hD0 => by
    refine ⟨a, b, h', w', ?_, ?_, hF, hW⟩
    · intro K n hn
      obtain ⟨n, rfl⟩ : ∃ M, n = M + 1 := ⟨n - 1, by omega⟩
      show F_X11_journeys_66 G X (nI M) (nI N) pct what K _ _ _ _ _ = _
      rw [F_X11_journeys_66, if_pos (nI_le (by omega) (by omega))]
    · intro v5 K n hn
      obtain ⟨n, rfl⟩ : ∃ M, n = M + 1 := ⟨n - 1, by omega⟩
      show P_X12_journeys_87 G (nI M) (nI N) pct what v5 K _ _ _ _ _ = _
      rw [P_X12_journeys_87, if_pos (nI_le (by omega) (by omega))]
  | d + 1, k, a, b, D, h', w', e, hF, hW, hD, hD0 => by
    have hR' := (hR.wq hW.1).frq hF
    have told' : w'.1 1 0 = 1 := by rw [pw1 hW.1.1 (by decide)]; exact told
    obtain ⟨U, c, t, hc⟩ := hR'.cur
    have hB := hc.1
    have hSt := hc.2.1
    have hS := hSt.1
    have hV := hc.2.2.2.1
    obtain ⟨hC, hCa⟩ := hc.2.2.1.cab told'
    have hc1 := hCa.1
    have ht1 := hCa.2.2.2.1
    obtain ⟨h7, b1, b2, b3, b4, b5, b6, -, b8, b9⟩ := c_copyFrom (G := G) (c1 := X + 34) hC (st_N8 hS) hR'.1.2.2.2.1 (Or.inl (by omega)) (Or.inl (by omega))
    have q7 : FrQ X R h' h7 := ⟨b2, b3, b5, fun k hk => b6 k (by omega), fun a q1 q2 => ⟨b8 a (fun z => q1 (Or.inl (by omega))), by rw [b4]⟩, fun k _ => by rw [b8 X (by omega)], by rw [b4]⟩
    have e3 : PW3 w'.1 (w_si w' 1 15 D).1 := PW3.of1 (by decide)
    have hC7 : Cab h7 (X + 34) t (w_si w' 1 15 D).1 := b9.pw hS e3
    have hR7 := hR'.frq q7
    have hB7 := hc.frq hR' q7
    obtain ⟨law, l1, l2, l3⟩ := trial_law (G := G) hR7 hC7 (hCa.frq q7) (x := w'.1 1 16) hV.2.2.2.1 (fun k q1 q2 => w_si_r (by omega)) (w_si_j (by decide))
    obtain ⟨l4, -⟩ := law_far hR7 hV.2.2.2.1 l1
    have hJ : JS h7 X t (w_si w' 1 15 D) law := ⟨⟨hB7.1.1, hR7.m7, ht1, l4⟩, by rw [b8 X (by omega), w_si_s]; exact hD, by rw [w_si_s]; exact hD0, hC7, hSt.pw e3, l2⟩
    have hmk : ((w_si w' 1 15 D).1 1 10).toInt = (w.1 1 10).toInt := by rw [px1 e3 (by decide), pw1 hW.1.1 (by decide)]
    obtain ⟨acc, h9, w9, f1, f2, f3, f4, f5⟩ := dj_both (G := G) (pct := pct) hN l3 N 0 0 h7 (w_si w' 1 15 D) (Nat.zero_add _) FrQ.rf hJ (by omega)
    have hnm : ∀ r, r = 0 ∨ Rs r → w9.1 r = w'.1 r := fun r hr => by
      rw [f5.1 r (by unfold MRw; unfold Rs at hr; omega), w_si_r (by unfold Rs at hr; omega)]
    obtain ⟨w10, y1, y2⟩ := JW.bk (w2 := w9) k1 (fun k q1 q2 => by rw [hnm 0 (Or.inl rfl)]; exact hW.2.1 k q1 q2) (fun r hr => by rw [hnm r (Or.inr hr)]; exact hW.2.2 r hr)
    have q9 : FrQ X R h h9 := (hF.tr q7).tr f4
    obtain ⟨a2, b2, h2, w2, z1, z2, z3, z4⟩ := js_both hR told k1 hN hm hM d (k + 1) (a + acc) (b + craV w9.1) (w9.1 1 15) h9 w10 (by omega) q9 y2 f3.2.1 f3.2.2.1
    have hC9 := f3.2.2.2.1
    have hS9 := f3.2.2.2.2.1
    refine ⟨a2, b2, h2, w2, ?_, ?_, z3, z4⟩
    · intro K n hn
      obtain ⟨n, rfl⟩ : ∃ M, n = M + 1 := ⟨n - 1, by omega⟩
      show F_X11_journeys_66 G X (nI M) (nI N) pct what K _ _ _ _ _ = _
      rw [F_X11_journeys_66, if_neg (nI_ge (by omega) (by omega)), u_ck hB.1.1, hR'.m7, u_ob, hB.1.2.1, u_ob, u_ck hB.1.2.2.1, hB.1.2.2.2.1, u_ob, u_ck hR'.1.2.2.2.1.1, b1, u_ob, u_ck hB7.1.1]
      unfold f_X11_drawJourney
      rw [u_ck hB7.1.1, hB7.1.2.1, u_ob, u_ck hB7.1.2.2.1, show m_i h7 (X + 10) 2 = w'.1 1 16 by rw [b8 (X + 10) (by omega)]; exact hV.2.2.1, l1, u_cb, show (lq2 (F_X11_drawJourney_18 G X (nI N) pct law) bN (0 : Int32) (0 : Int32) h7) = some (acc, h9) from f1 bN (bN_gt (by omega)), u_cb, u_nn, u_ck f3.1.1, f3.1.2.1, u_ob, u_ck (cab_t hC9), c_crossnessOfAll hC9 hS9.1 hS9.2.1, u_cb, u_nn, u_nn, nI_1]
      exact z1 K n (by omega)
    · intro v5 K n hn
      obtain ⟨n, rfl⟩ : ∃ M, n = M + 1 := ⟨n - 1, by omega⟩
      show P_X12_journeys_87 G (nI M) (nI N) pct what v5 K _ _ _ _ _ = _
      rw [P_X12_journeys_87, if_neg (nI_ge (by omega) (by omega)), u_ck ix_17_15, u_nn, tn_15]
      refine (f2 _ _ _ _ _ _ bN (bN_gt (by omega))).trans ?_
      have tail : ∀ s r : Int32, (if what = 0 then a else b) + s = (if what = 0 then a + acc else b + craV w9.1) → (nn ((if what = 0 then a else b) + s) fun x60 => ck (ixn 17 (15 : Int32) = true) <| nn (w9.1 1 15) fun x62 => ob (p_X12_laysBack G w9) fun w63 => nn (nI k + (1 : Int32)) fun x65 => lw3 (P_X12_journeys_87 G (nI M) (nI N) pct what v5 K) n x62 x60 x65 w63) = K (if what = 0 then a2 else b2) w2 := fun s r es => by
        rw [u_nn, u_ck ix_17_15, u_nn, y1, u_ob, u_nn, nI_1, es]
        exact z2 v5 K n (by omega)
      rw [u_nn]
      by_cases z : what = 0
      · rw [if_pos z]
        exact tail acc 0 (by rw [if_pos z, if_pos z])
      · rw [if_neg z, p_crossAll hS9.1, u_cw]
        exact tail (craV w9.1) 0 (by rw [if_neg z, if_neg z])
end
