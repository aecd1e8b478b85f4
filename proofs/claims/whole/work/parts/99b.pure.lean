/-! PURE 99b: sit. -/
section
variable {G : GG} {own : Nat → Nat} {R X c t U : Nat} {h h1 h2 h' : AH} {w w' w1 w2 w3 x x1 x2 x' : MS} {v v' : VV}
/-- the reference's rows: what was found -/
def SeR (v : VV) (w' : MS) (o : Option (Nat × Nat)) : Prop := SiR v w' ∧ match o with
  | none => w'.1 0 64 = nI 1000000000
  | some p => w'.1 0 64 = nI p.2 ∧ w'.1 0 63 = nI p.1 ∧ ∀ i, i < nSt v → w'.1 61 i = nI (bsV v p.1 (psV v p.1 i))
theorem seats_one (hS : St w.1) {b : Nat} (hb : b < 6) {o : Option (Nat × Nat)} (hO : Best w.1 o) (hF : SeF w w') (hE : SeR w.1 w' o) : ∃ w2, SeF w w2 ∧ SeR w.1 w2 (nxt w.1 o b) ∧ ∀ y self, nI b ≤ (if y = 0 then w.1 1 13 else 5) → P_X12_findsSeats_27 G y self (nI b) w' = self (nI (b + 1)) w2 := by
  have h8 := nSt_8 hS
  obtain ⟨wa, a1, a2, a3⟩ := p_fillsCosts (G := G) hS hb hF hE.1
  have hFa : SeF w wa := hF.tr ⟨fun r q1 q2 => a1 r (by omega), fun k _ _ _ => by rw [a1 0 (by decide)]⟩
  have hRa : SiR w.1 wa := by
    have := hE.1
    unfold SiR at this ⊢
    rw [a1 0 (by decide), a1 58 (by decide), a1 59 (by decide)]; exact this
  have e0 : wa.1 60 0 = nI (er (WV w.1 b 0)) := by
    have := a2 0 (Nat.two_pow_pos _)
    unfold WP at this
    rw [phi_0] at this; exact this
  have hsm := WV_small hS b 0
  have hlt := er_lt hsm (by decide)
  have e6 : ∃ g : Nat, g ≤ 1000000000 ∧ w'.1 0 64 = nI g ∧ (o = none ∧ g = 1000000000 ∨ ∃ p, o = some p ∧ g = p.2 ∧ g ≤ 80000) := by
    cases o with
    | none => exact ⟨1000000000, Nat.le_refl _, hE.2, Or.inl ⟨rfl, rfl⟩⟩
    | some p =>
      have := hO p.1 p.2 rfl
      have h8 := WV_small hS p.1 0 p.2 this.2
      exact ⟨p.2, by omega, hE.2.1, Or.inr ⟨p, rfl, rfl, h8⟩⟩
  obtain ⟨g, hg, eg, hgo⟩ := e6
  have e64 : wa.1 0 64 = nI g := by rw [a1 0 (by decide)]; exact eg
  have pre : ∀ y self, nI b ≤ (if y = 0 then w.1 1 13 else 5) → P_X12_findsSeats_27 G y self (nI b) w' = (nn (fun (h_84 : MS) => (nn (nI b + (1 : Int32)) fun x8 => self x8 h_84)) fun j_84 => if nI g ≤ nI (er (WV w.1 b 0)) then (j_84 wa) else ck (ixn 256 (0 : Int32) = true) <| nn (w_si wa 0 64 (nI (er (WV w.1 b 0)))) fun w11 => nn (w_si w11 0 63 (nI b)) fun w12 => ob (p_X12_followsCosts G (nI b) w12) fun w13 => j_84 w13) := fun y self hy => by
    rw [P_X12_findsSeats_27, u_nn]
    by_cases z : y = 0
    · rw [if_pos z] at hy
      rw [if_pos z, u_ck ix_17_13, tn_13, hF.1 1 (by omega) (by omega)]
      dsimp only
      rw [if_neg (by rw [I_lt]; rw [I_le] at hy; omega), a3, u_ob, u_ck ix_256_0, tn_0, e64, e0]
    · rw [if_neg z] at hy
      rw [if_neg z]
      dsimp only
      rw [if_neg (by rw [I_lt]; rw [I_le] at hy; omega), a3, u_ob, u_ck ix_256_0, tn_0, e64, e0]
  by_cases z : g ≤ er (WV w.1 b 0)
  · refine ⟨wa, hFa, ⟨hRa, ?_⟩, fun y self hL => ?_⟩
    · have en' : nxt w.1 o b = o := by
        unfold nxt
        cases hw : WV w.1 b 0 with
        | none => rfl
        | some m =>
          rw [hw] at z
          have z' : g ≤ m := z
          have := hsm m hw
          rcases hgo with ⟨q1, q2⟩ | ⟨p, q1, q2, q3⟩
          · omega
          · rw [q1]; show (if m < p.2 then some (b, m) else some p) = some p
            rw [if_neg (by omega)]
      rw [en']
      have := hE.2
      cases o with
      | none => show wa.1 0 64 = _; rw [a1 0 (by decide)]; exact this
      | some p => exact ⟨by rw [a1 0 (by decide)]; exact this.1, by rw [a1 0 (by decide)]; exact this.2.1, fun q hq => by rw [a1 61 (by decide)]; exact this.2.2 q hq⟩
    · rw [pre y self hL, u_nn, if_pos (nI_le z (by omega))]
      dsimp only; rw [u_nn, nI_1]
  · obtain ⟨m, hw⟩ : ∃ m, WV w.1 b 0 = some m := by
      cases hw : WV w.1 b 0 with
      | none => rw [hw] at z; exact absurd hg z
      | some m => exact ⟨m, rfl⟩
    have ew : er (WV w.1 b 0) = m := by rw [hw]; rfl
    have hF5 : SeF w (w_si (w_si wa 0 64 (nI (er (WV w.1 b 0)))) 0 63 (nI b)) := (hFa.tr (SeF.s0 (by omega))).tr (SeF.s0 (by omega))
    have hR5 : SiR w.1 (w_si (w_si wa 0 64 (nI (er (WV w.1 b 0)))) 0 63 (nI b)) := ⟨by rw [w_si_j (by decide), w_si_j (by decide)]; exact hRa.1, fun k hk => by rw [w_si_r (by decide), w_si_r (by decide)]; exact hRa.2.1 k hk, fun j hj => by rw [w_si_r (by decide), w_si_r (by decide)]; exact hRa.2.2 j hj⟩
    obtain ⟨wb, b1, b2, b3⟩ := follow_all (G := G) hS hb hw (nSt w.1) 0 bN (w_si (w_si wa 0 64 (nI (er (WV w.1 b 0)))) 0 63 (nI b)) (Nat.zero_add _) (bN_gt (by omega)) hF5 hR5 (fun T hT => by rw [w_si_r (by decide), w_si_r (by decide)]; exact a2 T hT) (fun i hi => absurd hi (Nat.not_lt_zero i))
    have b3' : p_X12_followsCosts G (nI b) (w_si (w_si wa 0 64 (nI (er (WV w.1 b 0)))) 0 63 (nI b)) = some wb := b3
    refine ⟨wb, hF5.tr ⟨fun r q1 q2 => b1 r (by omega), fun k _ _ _ => by rw [b1 0 (by decide)]⟩, ⟨?_, ?_⟩, fun y self hL => ?_⟩
    · unfold SiR at hR5 ⊢
      rw [b1 0 (by decide), b1 58 (by decide), b1 59 (by decide)]; exact hR5
    · have en' : nxt w.1 o b = some (b, m) := by
        unfold nxt
        rw [hw]
        rcases hgo with ⟨q1, q2⟩ | ⟨p, q1, q2, q3⟩
        · rw [q1]
        · rw [q1]; show (if m < p.2 then some (b, m) else some p) = some (b, m)
          rw [if_pos (by omega)]
      rw [en']
      exact ⟨by rw [b1 0 (by decide), w_si_j (by decide), w_si_s, ew], by rw [b1 0 (by decide), w_si_s], b2⟩
    · rw [pre y self hL, u_nn, if_neg (nI_ge (by omega) (by omega)), u_ck ix_256_0, u_nn, u_nn, b3', u_ob]
      dsimp only; rw [u_nn, nI_1]
theorem hole_c (hC : Cab h c t v) (hS : St v) (hX : X + 58 ≤ c ∧ X + 58 ≤ t) (hG : GT h X) {B L : Nat} (hB : B < 256) (hBs : seatV v = nI B) (hBo : ∀ s, s < 8 → B.testBit s = occ v s) (hL : L < 6) (K : AH → Option (Int32 × AH)) : ∀ (d b n : Nat) (h' : AH) (o : Option (Nat × Nat)), b + d = L + 1 → d < n → Fr (SSe X) h h' → Best v o → SeC X h' v o → ∃ h2, Fr (SSe X) h h2 ∧ SeC X h2 v (fs (fun b o => nxt v o b) d b o) ∧ Best v (fs (fun b o => nxt v o b) d b o) ∧ lq1 (F_X7_settle_41 G (X + 39) c (nI L) K) n (nI b) h' = K h2
  | 0, b, n + 1, h', o, e, _, hF, hO, hE => by
    refine ⟨h', hF, hE, hO, ?_⟩
    show F_X7_settle_41 G (X + 39) c (nI L) K _ _ _ = _
    rw [F_X7_settle_41, if_pos (nI_lt (by omega) (by omega))]
  | d + 1, b, n + 1, h', o, e, hn, hF, hO, hE => by
    have hC' : Cab h' c t v := hC.fr (st_N8 hS) hF (fun a ha => by unfold SSe at ha; omega)
    obtain ⟨h1, a1, a2, a3⟩ := settle_one (G := G) hC' hS hX (hG.fr hF) (b := b) (by omega) hB hBs hBo hO hE
    obtain ⟨h2, b1, b2, b3, b4⟩ := hole_c hC hS hX hG hB hBs hBo hL K d (b + 1) n h1 (nxt v o b) (by omega) (by omega) (hF.tr a1) (nxt_best hO (by omega)) a2
    refine ⟨h2, b1, b2, b3, ?_⟩
    show F_X7_settle_41 G (X + 39) c (nI L) K _ _ _ = _
    rw [a3 _ _ _ (nI_le (by omega) (by omega))]; exact b4
theorem hole_p (hS : St w.1) {L : Nat} (hL : L < 6) {y : Int32} (hy : (if y = 0 then w.1 1 13 else 5) = nI L) : ∀ (d b n : Nat) (w' : MS) (o : Option (Nat × Nat)), b + d = L + 1 → d < n → SeF w w' → Best w.1 o → SeR w.1 w' o → ∃ w2, SeF w w2 ∧ SeR w.1 w2 (fs (fun b o => nxt w.1 o b) d b o) ∧ lw1 (P_X12_findsSeats_27 G y) n (nI b) w' = some w2
  | 0, b, n + 1, w', o, e, _, hF, hO, hE => by
    refine ⟨w', hF, hE, ?_⟩
    show P_X12_findsSeats_27 G y _ _ _ = _
    rw [P_X12_findsSeats_27, u_nn]
    by_cases z : y = 0
    · rw [if_pos z] at hy
      rw [if_pos z, u_ck ix_17_13, tn_13, hF.1 1 (by omega) (by omega), hy]
      dsimp only
      rw [if_pos (nI_lt (by omega) (by omega))]
    · rw [if_neg z] at hy
      rw [if_neg z, hy]
      dsimp only
      rw [if_pos (nI_lt (by omega) (by omega))]
  | d + 1, b, n + 1, w', o, e, hn, hF, hO, hE => by
    obtain ⟨w1, a1, a2, a3⟩ := seats_one (G := G) hS (b := b) (by omega) hO hF hE
    obtain ⟨w2, b1, b2, b3⟩ := hole_p hS hL hy d (b + 1) n w1 (nxt w.1 o b) (by omega) (by omega) a1 (nxt_best hO (by omega)) a2
    refine ⟨w2, b1, b2, ?_⟩
    show P_X12_findsSeats_27 G y _ _ _ = _
    rw [a3 _ _ (by rw [hy]; exact nI_le (by omega) (by omega))]; exact b3
/-- the reference looks one up -/
theorem find_p {q : Nat} (hS : St v) (hR : SiR v w') (hq : q < 8) (K : Int32 → MS → Option (Int32 × MS)) (y : Int32) (hy : y - 2 = nI q) : ∀ (d k n : Nat), k + d = nSt v → d < n → (∀ i, i < k → sq v i ≠ q) → lw1 (P_X12_sit_62 G y K) n (nI k) w' = if q < sN v ∧ sit1 v q = true then K (nI (rowC (sit1 v) q)) w' else some (-1, w')
  | 0, k, n + 1, e, _, hi => by
    have h8 := nSt_8 hS
    show P_X12_sit_62 G y K _ _ _ = _
    rw [P_X12_sit_62, hR.1, if_pos (nI_le (by omega) (by omega)), if_neg (fun z => hi (rowC (sit1 v) q) (by have := rowC_lt (sit1 v) z.1 z.2; unfold nSt at e; omega) (enu_at (sit1 v) z.1 z.2))]
  | d + 1, k, n + 1, e, hn, hi => by
    have h8 := nSt_8 hS
    have hN8 := st_N8 hS
    have hs := sq_ok (v := v) (k := k) (by omega)
    show P_X12_sit_62 G y K _ _ _ = _
    rw [P_X12_sit_62, hR.1, if_neg (nI_ge (by omega) (by omega)), u_ck (u_ixn (by omega) (by decide)), nI_clamp (by omega), hR.2.1 k (by omega), hy]
    by_cases z : sq v k = q
    · rw [if_pos (by rw [z]), if_pos (by rw [← z]; exact ⟨hs.1, hs.2.1⟩)]
      rw [← z, hs.2.2]
    · rw [if_neg (fun g => z ((nI_eq (by omega) (by omega)).mp g)), u_nn, nI_1]
      exact find_p hS hR hq K y hy d (k + 1) n (by omega) (by omega) (fun i h => by
        by_cases u : i = k
        · subst u; exact z
        · exact hi i (by omega))
theorem call_sit (x y : Int32) : Call X (f_X11_sit G X x y) (p_X12_sit G x y) := by
  intro h w ⟨own, R, hR⟩
  obtain ⟨U, c, t, hc⟩ := hR.cur
  have hB := hc.1
  have hS := hc.2.1.1
  have pin9 : ∀ w : MS, p_X12_in G y.toInt64 (0 : Int64) (9 : Int64) w = some (if 0 ≤ y ∧ y ≤ 9 then 1 else 0, w) := fun w => p_in_i G y 0 9 w
  unfold f_X11_sit p_X12_sit
  rw [u_ck hB.1.1, c_hasTrain hB hS, u_cb, p_isTrain hS, u_cw]
  rcases told01 hS with q | q
  · rw [q, if_pos rfl, if_pos rfl]; exact stay hR _
  rw [q, if_neg n10, if_neg n10, pin9, u_cw, rng_ge (N := 9)]
  by_cases hy : 0 ≤ y ∧ y ≤ 9
  rotate_left
  · rw [if_neg hy, if_neg hy, if_pos rfl]; exact stay hR _
  rw [if_pos hy, if_pos hy, if_neg n10]
  obtain ⟨hC, hCa⟩ := hc.2.2.1.cab q
  have hG := hR.1.2.2.2.2.1
  have r8 : m_r h X 8 = some (X + 39) := hR.1.1.2.2.2.2.2.2.2.2.1
  have hX : X + 58 ≤ c ∧ X + 58 ≤ t := ⟨by have := hCa.1; omega, by have := hCa.2.2.2.1; omega⟩
  have h8 := nSt_8 hS
  obtain ⟨B, hB8, hBs, hBo'⟩ := seat_bits hS
  have hBo : ∀ s, s < 8 → B.testBit s = occ w.1 s := fun s hs => by
    unfold occ
    have := hBo' s hs
    cases hb : B.testBit s
    · exact (decide_eq_false (show ¬ sitV w.1 (nI s) ≠ -1 from fun z => z (this.mp hb))).symm
    · exact (decide_eq_true (show sitV w.1 (nI s) ≠ -1 from fun z => by rw [this.mpr z] at hb; cases hb)).symm
  -- the range of holes
  obtain ⟨hl, hhl, ehl⟩ := bd_nI (b := 5) (st_hole hS)
  obtain ⟨b0, L, hL, hbL, ex0, exL⟩ : ∃ b0 L : Nat, L < 6 ∧ b0 ≤ L ∧ (if x = 0 then w.1 1 13 else 0) = nI b0 ∧ (if x = 0 then w.1 1 13 else 5) = nI L := by
    by_cases z : x = 0
    · exact ⟨hl, hl, by omega, Nat.le_refl _, by rw [if_pos z]; exact ehl, by rw [if_pos z]; exact ehl⟩
    · exact ⟨0, 5, by decide, by decide, by rw [if_neg z]; rfl, by rw [if_neg z]; rfl⟩
  -- the class
  obtain ⟨ha, a1, a2, a3, a4⟩ := gather_loop (G := G) hC hS hX hG (sN w.1) 0 bN (m_si h (X + 39) 1 0) (Nat.zero_add _) (bN8 hS) (Fr.si (Or.inl rfl)) (by rw [m_i_ss]; rfl) (fun k hk => absurd hk (Nat.not_lt_zero k))
  have hGa := hG.fr a1
  have hCa' : Cab ha c t w.1 := hC.fr (st_N8 hS) a1 (fun a ha => by omega)
  have hFb : Fr (SSe X) h (m_si ha (X + 39) 6 (268435456 : Int32)) := (a1.wk (fun a ha => by unfold SSe; omega)).tr (Fr.si (by unfold SSe; omega))
  have hGb := hG.fr hFb
  have hCb : Cab (m_si ha (X + 39) 6 (268435456 : Int32)) c t w.1 := hC.fr (st_N8 hS) hFb (fun a ha => by unfold SSe at ha; omega)
  have hEb : SeC X (m_si ha (X + 39) 6 (268435456 : Int32)) w.1 none := ⟨⟨by rw [m_i_sj (by decide)]; exact a2, fun k hk => by rw [m_i_sb (by omega)]; exact a3 k hk⟩, m_i_ss _ _ _ _⟩
  have hO0 : Best w.1 none := fun b m e => by cases e
  obtain ⟨h2, b1, b2, b3, b4⟩ := hole_c (G := G) hCb hS hX hGb hB8 hBs hBo hL (fun (h_92 : AH) => (ck (m_t h_92 (X + 39) = .inl 7) <| if (268435456 : Int32) ≤ (m_i h_92 (X + 39) 6) then (some ((0 : Int32), h_92)) else some ((1 : Int32), h_92))) (L + 1 - b0) b0 bN _ none (by omega) (bN_gt (by omega)) Fr.rf hO0 hEb
  have hF2 : Fr (SSe X) h h2 := hFb.tr b1
  have hG2 := hG.fr hF2
  -- the reference
  obtain ⟨wa, d1, d2, d3⟩ := p_laysSitters (G := G) hS
  obtain ⟨w2, e1, e2, e3⟩ := hole_p (G := G) hS hL exL (L + 1 - b0) b0 bN (w_si wa 0 64 (1000000000 : Int32)) none (by omega) (bN_gt (by omega)) (d1.tr (SeF.s0 (by omega))) hO0 ⟨⟨by rw [w_si_j (by decide)]; exact d2.1, fun k hk => by rw [w_si_r (by decide)]; exact d2.2.1 k hk, fun k hk => by rw [w_si_r (by decide)]; exact d2.2.2 k hk⟩, w_si_s _ _ _ _⟩
  have epf : p_X12_findsSeats G x w = some w2 := by
    unfold p_X12_findsSeats
    rw [d3, u_ob, u_nn, u_nn]
    have e13 : (w_si wa 0 64 (1000000000 : Int32)).1 1 = w.1 1 := by rw [w_si_r (by decide)]; exact d1.1 1 (by omega) (by omega)
    by_cases z : x = 0
    · rw [if_pos z] at ex0
      rw [if_pos z, u_ck ix_17_13, tn_13, e13, ex0]; exact e3
    · rw [if_neg z] at ex0
      have eb : nI b0 = 0 := ex0.symm
      rw [eb] at e3
      rw [if_neg z]; exact e3
  have esc : ∀ (hh : AH), m_t hh = m_t h → m_i hh c 2 = w.1 1 13 → True := fun _ _ _ => trivial
  have efs : f_X7_settle G (X + 39) c x h = (ck (m_t h2 (X + 39) = .inl 7) <| if (268435456 : Int32) ≤ (m_i h2 (X + 39) 6) then (some ((0 : Int32), h2)) else some ((1 : Int32), h2)) := by
    unfold f_X7_settle f_X7_gatherSitters
    have a4' : lq1 (F_X7_gatherSitters_7 G (X + 39) c) bN 0 (m_si h (X + 39) 1 0) = some ha := a4
    rw [u_ck hG.1, u_ck hG.1, u_nn, a4', u_ob, u_nn]
    by_cases z : x = 0
    · rw [if_pos z] at ex0 exL
      rw [if_pos z, u_ck (cab_t hCa'), cab_i2 hCa']
      dsimp only
      rw [u_nn, if_pos z, u_ck (cab_t hCa')]
      dsimp only
      rw [u_ck hGa.1, u_nn, ex0]
      have exx : nI L = nI b0 := by rw [← exL, ex0]
      rw [exx] at b4
      exact b4
    · rw [if_neg z] at ex0 exL
      rw [if_neg z]
      dsimp only
      rw [u_nn, if_neg z]
      dsimp only
      rw [u_ck hGa.1, u_nn]
      have eb : nI b0 = 0 := ex0.symm
      have eL : nI L = 5 := exL.symm
      rw [eb, eL] at b4
      exact b4
  have hFq : FrQ X R h h2 := hF2.q (fun z hz => ⟨Or.inl (by unfold SSe at hz; omega), by unfold SSe at hz; omega⟩)
  have fin : ∀ (F : Option (Int32 × AH)) (P : Option (Int32 × MS)), (∃ a, F = some (a, h2) ∧ P = some (a, w2)) → ∃ r h' w', F = some (r, h') ∧ P = some (r, w') ∧ Rel h' X w' ∧ Kp X h h' := fun F P ⟨a, q1, q2⟩ => ⟨a, h2, w2, q1, q2, ⟨own, R, (hR.frq hFq).wq e1.wq⟩, hFq.kp hR⟩
  refine fin _ _ ?_
  have t2 : m_t h2 X = .inl 11 := by rw [hF2.1]; exact hB.1.1
  have r82 : m_r h2 X 8 = some (X + 39) := by rw [hF2.2.1]; exact r8
  rw [u_ck hB.1.1, r8, u_ob, hB.1.2.1, u_ob, u_ck hB.1.2.2.1, hB.1.2.2.2.1, u_ob, u_ck hG.1, efs, u_ck hG2.1, epf, u_ob]
  cases ho : fs (fun b o => nxt w.1 o b) (L + 1 - b0) b0 none with
  | none =>
    rw [ho] at b2 e2
    have c6 : m_i h2 (X + 39) 6 = nI 268435456 := b2.2
    have c64 : w2.1 0 64 = nI 1000000000 := e2.2
    rw [c6, if_pos (show (268435456 : Int32) ≤ nI 268435456 from I_ler), u_cb, if_pos rfl, c64, if_pos (show nI 1000000000 = (1000000000 : Int32) from rfl)]
    exact ⟨_, rfl, rfl⟩
  | some p =>
    rw [ho] at b2 b3 e2
    obtain ⟨p1, p2⟩ := b3 p.1 p.2 rfl
    have hm := WV_small hS p.1 0 p.2 p2
    have c6 : m_i h2 (X + 39) 6 = nI p.2 := b2.2.1
    have c64 : w2.1 0 64 = nI p.2 := e2.2.1
    have n64 : ¬ nI p.2 = (1000000000 : Int32) := fun z => by have := (nI_eq (b := 1000000000) (by omega) (by omega)).mp z; omega
    rw [c6, if_neg (show ¬ (268435456 : Int32) ≤ nI p.2 from nI_ge (b := 268435456) (by omega) (by omega)), u_cb, if_neg n10, c64, if_neg n64]
    obtain ⟨m, rfl, hm9, -⟩ := nat_of hy
    have i9 : (9 : Int32).toInt = 9 := rfl
    by_cases m2 : m < 2
    · rw [if_neg (show ¬ (2 : Int32) ≤ nI m from nI_ge (b := 2) (by omega) (by omega))]
      by_cases m0 : m = 0
      · subst m0
        rw [if_pos (show nI 0 = (0 : Int32) from rfl), if_pos (show nI 0 = (0 : Int32) from rfl), u_ck t2, r82, u_ob, u_ck hG2.1, c6]
        exact ⟨_, rfl, rfl⟩
      · have e1' : m = 1 := by omega
        subst e1'
        rw [if_neg (show ¬ nI 1 = (0 : Int32) by decide), if_neg (show ¬ nI 1 = (0 : Int32) by decide), if_pos (show nI 1 = (1 : Int32) from rfl), u_ck t2, r82, u_ob, u_ck hG2.1, b2.2.2.1, e2.2.2.1]
        exact ⟨_, rfl, rfl⟩
    · have ey : nI m - 2 = nI (m - 2) := pk_sub (a := m) (b := 2) (by omega)
      rw [if_pos (show (2 : Int32) ≤ nI m from nI_le (a := 2) (by omega) (by omega)), if_neg (nI_ne0 (by omega) (by omega)), if_neg (show ¬ nI m = (1 : Int32) from fun z => by have := (nI_eq (b := 1) (by omega) (by omega)).mp z; omega), u_ck t2, r82, u_ob, u_ck hG2.1, hG2.2.2.2.2.1, u_ob, ey, u_ck (ixb_e (n := 8) hG2.2.2.2.2.2.2.2.2 (by omega) (by decide)), nI_clamp (by omega), b2.2.2.2 (m - 2) (by omega)]
      have fp := find_p (G := G) hS e2.1 (q := m - 2) (by omega) (fun (v3_82 : Int32) (h_82 : MS) => (ck (ixn 8 v3_82 = true) <| some (h_82.1 61 v3_82.toNatClampNeg, h_82))) (nI m) ey (nSt w.1) 0 bN (Nat.zero_add _) (bN_gt (by omega)) (fun i hi => absurd hi (Nat.not_lt_zero i))
      rw [nI_0] at fp
      rw [fp]
      by_cases z : m - 2 < sN w.1 ∧ sit1 w.1 (m - 2) = true
      · have hk := rowC_lt (sit1 w.1) z.1 z.2
        rw [if_pos z, if_pos z, u_ck (u_ixn (show rowC (sit1 w.1) (m - 2) < 8 by unfold nSt at h8; omega) (by decide)), nI_clamp (by unfold nSt at h8; omega), e2.2.2.2 _ hk]
        exact ⟨_, rfl, rfl⟩
      · rw [if_neg z, if_neg z]
        exact ⟨_, rfl, rfl⟩
end
