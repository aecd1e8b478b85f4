/-! PURE 88: gains. -/
section
variable {G : GG} {own : Nat → Nat} {R X c t U : Nat} {h h0 h1 h2 h' : AH} {w w0 w' w1 w2 w3 : MS} {v v' v0 : VV}
theorem FrQ.si {a k : Nat} {x : Int32} (ha : X + 34 ≤ a ∧ a < X + 59) : FrQ X R h (m_si h a k x) :=
  (Fr.si (S := fun b => b = a) rfl).q (fun b hb => ⟨Or.inl (by omega), by omega⟩)
theorem sw_both (hR : RelO own R h X w) (told : w.1 1 0 = 1) {q r n : Nat} {lie : Int32} (hq : q < sN w.1) (hr : r < R) (hn : n ≤ 240) (hm : (w.1 1 10).toInt + n ≤ 240) (hl : bd lie (-9) 9) : ∃ x h1 w1, f_X11_sufferedWithLie G X (nI q) (nI r) (nI n) lie h = some (x, h1) ∧ p_X12_sufferWith G (nI q) (nI r) (nI n) lie w = some (x, w1) ∧ FrQ X R h h1 ∧ WQ w w1 := by
  obtain ⟨U, c, t, hc⟩ := hR.cur
  have hB := hc.1
  have hSt := hc.2.1
  have hS := hSt.1
  obtain ⟨h7, b1, b2, b3⟩ := c_trial (G := G) hR hc told
  obtain ⟨hC, hCa⟩ := hc.2.2.1.cab told
  obtain ⟨wk, k1, -⟩ := p_keepsAll (G := G) (w := w)
  obtain ⟨kr, kp⟩ := keeps_pw k1
  have ew : PW3 w.1 (w_si wk 1 16 (nI r)).1 := kp.p3.tr (PW3.of1 (by decide))
  have hS4 := hSt.pw ew
  have hC4 : Cab h7 (X + 34) t (w_si wk 1 16 (nI r)).1 := b3.pw hS ew
  have hN4 : sN (w_si wk 1 16 (nI r)).1 = sN w.1 := pwN ew
  have hC6 := hC4.si (st_N8 hS4.1) 8 4 q lie (by decide)
  have hS6 := hS4.lie (q := q) hl
  have hF6 : FrQ X R h (m_si h7 (X + 34 + 4) q lie) := b2.tr (FrQ.si (by omega))
  have hR6 := hR.frq hF6
  have hB6 := hc.frq hR hF6
  obtain ⟨law, l1, l2, l3⟩ := trial_law (G := G) hR6 hC6 (hCa.frq hF6) (x := nI r) (Or.inr ⟨r, hr, rfl⟩) (fun k q1 q2 => by rw [w_si_r (by omega), w_si_r (by omega), kr k (by omega) (by omega)]) (by rw [w_si_r (by decide), w_si_s])
  have hmk : ((w_si (w_si wk 1 16 (nI r)) 8 q lie).1 1 10).toInt = (w.1 1 10).toInt := by rw [w_si_r (by decide), px1 ew (by decide)]
  obtain ⟨h9, w9, g1, g2, g3, g4, g5, g6, g7, g8⟩ := goes_both (G := G) hR6.1.1.1 hR6.m7 (N := n) hn hC6 hS6 l2 (by omega)
  have hF9 : FrQ X R h h9 := hF6.tr (g6.q l3)
  have hs : ∀ r, r = 0 ∨ (3 ≤ r ∧ r ≤ 7) ∨ (13 ≤ r ∧ r ≤ 19) ∨ (42 ≤ r ∧ r ≤ 48) ∨ r = 53 ∨ r = 81 ∨ r = 82 → w9.1 r = wk.1 r := fun r hr => by
    rw [g7 r (by unfold MRw; omega), w_si_r (by omega), w_si_r (by omega)]
  obtain ⟨w3, e1, e2, -⟩ := kb (G := G) k1 hs
  have hB9 := hc.frq hR hF9
  have r9 : m_r h9 X 7 = some (X + 34) := by rw [hF9.2.2.1 X (by omega)]; exact hR.m7
  have hC9 : Cab h9 c t w.1 := hC.frq (st_N8 hS) hCa hR.2.2.2.1 hF9
  have eN : sN w9.1 = sN w.1 := by
    rw [← hN4]; unfold sN; rw [g8 6 (by decide) (by decide) (by decide), w_si_r (by decide)]
  have h12 : (w_si (w_si wk 1 16 (nI r)) 8 q lie).1 12 q = w.1 12 q := by rw [w_si_r (by decide), px12 ew (by have := st_N8 hS; omega)]
  have hB7 := hc.frq hR b2
  refine ⟨w9.1 12 q - w.1 12 q, h9, w3, ?_, ?_, hF9, e2⟩
  · unfold f_X11_sufferedWithLie
    rw [u_ck hB.1.1, hR.m7, u_ob, hB.1.2.1, u_ob, u_ck hB.1.2.2.1, hB.1.2.2.2.1, u_ob, u_ck hR.1.2.2.2.1.1, b1, u_ob, u_ck hB7.1.1, (hR.frq b2).m7, u_ob, u_ck (cab_t hC4), cab_9 hC4, u_ob, u_ck (cab_x4 hC4 hS4.1 (by rw [hN4]; exact hq)), u_nn, qc hS hq, l1, u_cb, u_ck hB6.1.1, g1, u_ob, u_ck hB9.1.1, c_inTrial hB9.1.1 r9 hB9.1.2.1 hB9.1.2.2.1 hB9.1.2.2.2.1 g3 g4.1 hC9 hS (by rw [eN]; exact hq) hq, u_cb]
  · unfold p_X12_sufferWith
    rw [k1, u_ob, u_ck ix_17_16, u_nn, tn_16, u_ck (q8 hS hq), u_nn, qc hS hq, u_ck (q8 hS hq), u_nn, h12, g2, u_cw, u_ck (q8 hS hq), u_nn, e1, u_ob]
/-- a lie's suffering is the same whenever it is asked -/
theorem sw_det (hR : RelO own R h0 X w0) (told : w0.1 1 0 = 1) {q r n : Nat} (hq : q < sN w0.1) (hr : r < R) (hn : n ≤ 240) (hm : (w0.1 1 10).toInt + n ≤ 240) : ∃ V : Int32 → Int32, ∀ lie h w, bd lie (-9) 9 → FrQ X R h0 h → WQ w0 w → ∃ h1 w1, f_X11_sufferedWithLie G X (nI q) (nI r) (nI n) lie h = some (V lie, h1) ∧ p_X12_sufferWith G (nI q) (nI r) (nI n) lie w = some (V lie, w1) ∧ FrQ X R h0 h1 ∧ WQ w0 w1 := by
  have base : ∀ lie : Int32, ∃ x : Int32, bd lie (-9) 9 → ∃ h1, f_X11_sufferedWithLie G X (nI q) (nI r) (nI n) lie h0 = some (x, h1) := fun lie => by
    by_cases hl : bd lie (-9) 9
    · obtain ⟨x, h1, w1, e, -⟩ := sw_both (G := G) hR told hq hr hn hm hl
      exact ⟨x, fun _ => ⟨h1, e⟩⟩
    · exact ⟨0, fun z => absurd z hl⟩
  obtain ⟨V, hV⟩ := Classical.axiomOfChoice base
  refine ⟨V, fun lie h w hl hF hW => ?_⟩
  have tq : ∀ {w}, WQ w0 w → w.1 1 0 = 1 ∧ q < sN w.1 ∧ (w.1 1 10).toInt + n ≤ 240 := fun hW => ⟨by rw [pw1 hW.1 (by decide)]; exact told, by rw [pwN hW.1.p3]; exact hq, by rw [pw1 hW.1 (by decide)]; exact hm⟩
  obtain ⟨t1, t2, t3⟩ := tq hW
  obtain ⟨h1, e1⟩ := hV lie hl
  obtain ⟨x, h2, w2, f1, f2, -, -⟩ := sw_both (G := G) (hR.wq hW) t1 t2 hr hn t3 hl
  rw [e1] at f1
  have ex : x = V lie := by cases f1; rfl
  subst ex
  obtain ⟨y, h3, w3, g1, g2, g3, g4⟩ := sw_both (G := G) ((hR.wq hW).frq hF) t1 t2 hr hn t3 hl
  have ey : y = V lie := by rw [f2] at g2; cases g2; rfl
  subst ey
  exact ⟨h3, w3, g1, g2, hF.tr g3, hW.tr g4⟩
/-- the lies in their order -/
def gS (V : Int32 → Int32) (l : Int32) (a : Int32 × Int32) : Int32 × Int32 := if a.2 ≤ V l then a else (l, V l)
theorem neg_mul1 : ∀ k : Nat, k ≤ 9 → nI k * (-1) = -nI k ∧ nI k * 1 = nI k ∧ -nI k + 2 * nI k = nI k ∧ ¬ nI k < -nI k ∧ (k ≠ 0 → nI k < nI k + 2 * nI k) ∧ nI k * (-1 + 2) = nI k := by decide
theorem bd_k : ∀ k : Nat, k ≤ 9 → bd (nI k) (-9) 9 ∧ bd (-nI k) (-9) 9 := by
  intro k hk
  have h1 := nI_toInt (n := k) (by omega)
  have h2 := sb_negT (w := k) (by omega)
  unfold bd; omega
end
