/-! PURE 69: each word's value, on both sides. -/
theorem WC_cg {v v' : VV} (e : ∀ r, 1 ≤ r → r ≤ 17 → v' r = v r) (k j : Nat) : WC v' k j = WC v k j := by
  unfold WC
  refine fs_cong (fun q _ _ x => ?_)
  rw [e 10 (by decide) (by decide), wantV_cg (fun r hr => e r (by omega) (by omega))]
theorem cwn_cg {v v' : VV} (e : ∀ r, 1 ≤ r → r ≤ 17 → v' r = v r) (k : Nat) : cwn v' k = cwn v k := by
  funext j
  unfold cwn
  refine fs_cong (fun q _ _ x => ?_)
  rw [e 10 (by decide) (by decide), wantV_cg (fun r hr => e r (by omega) (by omega))]
theorem nan_cg {v v' : VV} (e : ∀ r, 1 ≤ r → r ≤ 17 → v' r = v r) (k : Nat) : nan v' k = nan v k := by
  unfold nan; rw [e 10 (by decide) (by decide)]
theorem NA_cg {v v' : VV} (e : ∀ r, 1 ≤ r → r ≤ 17 → v' r = v r) (k : Nat) : NA v' k = NA v k := by
  unfold NA; rw [e 10 (by decide) (by decide)]
theorem CX_cg {v v' : VV} (e : ∀ r, 1 ≤ r → r ≤ 17 → v' r = v r) (k : Nat) : CX v' k = CX v k := by
  unfold CX; rw [e 10 (by decide) (by decide), e 11 (by decide) (by decide)]
theorem WN_cg {v v' : VV} (e : ∀ r, 1 ≤ r → r ≤ 17 → v' r = v r) (k : Nat) : WN v' k = WN v k := by
  unfold WN
  refine fs_cong (fun q _ _ x => ?_)
  rw [e 10 (by decide) (by decide), e 9 (by decide) (by decide), wantV_cg (fun r hr => e r (by omega) (by omega))]
theorem MO_cg {v v' : VV} (e : ∀ r, 1 ≤ r → r ≤ 17 → v' r = v r) (k : Nat) : MO v' k = MO v k := by
  unfold MO
  refine fs_cong (fun q _ _ x => ?_)
  rw [e 10 (by decide) (by decide), e 1 (by decide) (by decide), wantV_cg (fun r hr => e r (by omega) (by omega))]
theorem LE_cg {v v' : VV} (e : ∀ r, 1 ≤ r → r ≤ 17 → v' r = v r) (k : Nat) : LE v' k = LE v k := by
  unfold LE
  refine fs_cong (fun q _ _ x => ?_)
  rw [e 10 (by decide) (by decide), e 1 (by decide) (by decide), wantV_cg (fun r hr => e r (by omega) (by omega))]
theorem sN_cg {v v' : VV} (e : ∀ r, 1 ≤ r → r ≤ 17 → v' r = v r) : sN v' = sN v := by
  unfold sN; rw [e 1 (by decide) (by decide)]
theorem soonV_cg {v v' : VV} (e : ∀ r, 1 ≤ r → r ≤ 17 → v' r = v r) (m : Int32) : soonV v' m = soonV v m := by
  unfold soonV soonS sT; rw [e 1 (by decide) (by decide), e 13 (by decide) (by decide)]
theorem askV_cg {v v' : VV} (e : ∀ r, 1 ≤ r → r ≤ 17 → v' r = v r) (i : Nat) : askV v' i = askV v i := by
  unfold askV
  rw [sN_cg e, e 1 (by decide) (by decide), tunV_cg (fun r hr => e r (by omega) (by omega)), soonV_cg e, WN_cg e, cwn_cg e, nan_cg e, MO_cg e, LE_cg e, NA_cg e, CX_cg e]
section
variable {G : GG} {h : AH} {w : MS} {c t L : Nat} {v : VV}
theorem knob0 (hC : Cab h c t v) : (m_i h c 5 >>> (((2 : Int32) * 0) &&& 31)) &&& (3 : Int32) = v 1 12 := by
  obtain ⟨n, hn, hK, hkv⟩ := cab_i5 hC
  have h1 := ago_e (L := 0) hn (by decide)
  rw [nI_0] at h1
  rw [hK, h1]
  have h2 := hkv 0 (by decide)
  unfold kv at h2
  rw [if_pos rfl] at h2
  exact h2.symm
theorem c_valueOf (hC : Cab h c t v) (hS : St v) (hL : LaS h L) (hV : LV h L v) {i : Nat} (hi : i < 13) : f_X2_valueOf G L (nI (300 + i)) c h = some (askV v i, h) := by
  obtain ⟨hn, hh, he⟩ := bd_nI (b := 5) (st_hole hS)
  unfold f_X2_valueOf
  match i, hi with
  | 0, _ =>
    rw [if_pos (by decide), u_ck (cab_t hC), cab_i2 hC]; rfl
  | 1, _ =>
    rw [if_neg (by decide), if_pos (by decide), u_ck (cab_t hC), cab_i3 hC]; rfl
  | 2, _ =>
    rw [if_neg (by decide), if_neg (by decide), if_pos (by decide), u_ck (cab_t hC), cab_i4 hC]; rfl
  | 3, _ =>
    rw [if_neg (by decide), if_neg (by decide), if_neg (by decide), if_pos (by decide), u_ck (cab_t hC), cab_0 hC, u_ob, u_ck (tr_t hC), c_isTunnel hC hS, u_cb, cab_i4 hC]
    show _ = some ((if tunV v (v 1 10) then 1 else 0), h)
    cases tunV v (v 1 10) <;> rfl
  | 4, _ =>
    rw [if_neg (by decide), if_neg (by decide), if_neg (by decide), if_neg (by decide), if_pos (by decide), u_ck (cab_t hC), cab_0 hC, u_ob, u_ck (tr_t hC), c_milesToTunnel hC hS, u_cb, cab_i4 hC]; rfl
  | 5, _ =>
    rw [if_neg (by decide), if_neg (by decide), if_neg (by decide), if_neg (by decide), if_neg (by decide), if_pos (by decide), u_ck hL.1, hV.2.2.1]; rfl
  | 6, _ =>
    rw [if_neg (by decide), if_neg (by decide), if_neg (by decide), if_neg (by decide), if_neg (by decide), if_neg (by decide), if_pos (by decide), u_ck (cab_t hC), u_ck hL.1, c_middleWant hS hL hV, u_cb, cab_i2 hC]; rfl
  | 7, _ =>
    rw [if_neg (by decide), if_neg (by decide), if_neg (by decide), if_neg (by decide), if_neg (by decide), if_neg (by decide), if_neg (by decide), if_pos (by decide), u_ck (cab_t hC), u_ck hL.1, c_commonestWant hS hL hV, u_cb, cab_i2 hC]; rfl
  | 8, _ =>
    rw [if_neg (by decide), if_neg (by decide), if_neg (by decide), if_neg (by decide), if_neg (by decide), if_neg (by decide), if_neg (by decide), if_neg (by decide), if_pos (by decide), u_ck (cab_t hC), u_ck hL.1, cab_i2 hC]
    unfold f_X2_wantsWithin
    show _ = some (MO v (sN v), h)
    rw [u_nn, he, nI_1, if_pos (show (0 : Int32) < nI (hn + 1) from nI_lt (a := 0) (by omega) (by omega)), c_within (G := G) hL 6 6 rfl (by decide) (5 - hn) (hn + 1) bN 0 (by omega) (bN_gt (by omega)), u_cb, MO_e hS he (by omega) _ (Nat.le_refl _)]
    congr 2
    exact fs_cong (fun j _ hj x => by rw [hV.1 j (by omega), WC_n])
  | 9, _ =>
    rw [if_neg (by decide), if_neg (by decide), if_neg (by decide), if_neg (by decide), if_neg (by decide), if_neg (by decide), if_neg (by decide), if_neg (by decide), if_neg (by decide), if_pos (by decide), u_ck (cab_t hC), u_ck hL.1, cab_i2 hC]
    unfold f_X2_wantsWithin
    show _ = some (LE v (sN v), h)
    have hw := c_within (G := G) hL (v 1 13) hn he (by omega) hn 0 bN 0 (by omega) (bN_gt (by omega))
    rw [nI_0] at hw
    rw [u_nn, if_neg (by decide), hw, u_cb, LE_e hS he (by omega) _ (Nat.le_refl _)]
    congr 2
    exact fs_cong (fun j _ hj x => by rw [hV.1 j (by omega), WC_n])
  | 10, _ =>
    rw [if_neg (by decide), if_neg (by decide), if_neg (by decide), if_neg (by decide), if_neg (by decide), if_neg (by decide), if_neg (by decide), if_neg (by decide), if_neg (by decide), if_neg (by decide), if_pos (by decide), u_ck hL.1, hV.2.1, ← NA_n]; rfl
  | 11, _ =>
    rw [if_neg (by decide), if_neg (by decide), if_neg (by decide), if_neg (by decide), if_neg (by decide), if_neg (by decide), if_neg (by decide), if_neg (by decide), if_neg (by decide), if_neg (by decide), if_neg (by decide), if_pos (by decide), u_ck hL.1, hV.2.2.2]; rfl
  | 12, _ =>
    rw [if_neg (by decide), if_neg (by decide), if_neg (by decide), if_neg (by decide), if_neg (by decide), if_neg (by decide), if_neg (by decide), if_neg (by decide), if_neg (by decide), if_neg (by decide), if_neg (by decide), if_neg (by decide), u_ck (cab_t hC)]
    unfold f_X11_knobAgo
    rw [u_cb, knob0 hC]; rfl
/-- the reference asks -/
theorem p_asks (hS : St w.1) : ∃ w2, p_X12_asks G w = some w2 ∧ Fw (fun r => r = 52) w w2 ∧ ∀ i, i < 13 → w2.2 50 i = (askV w.1 i).toInt64 := by
  obtain ⟨w1, f1, f2, f3, f4⟩ := ask_zero G 0 0 0 0 (fun (h_33 : MS) => (lw5 (P_X12_asks_36 G (fun (v1_151 : Int32) (v2_151 : Int32) (v3_151 : Int32) (v4_151 : Int32) (h_151 : MS) => (cw (p_X12_sitterOf G (0 : Int32) h_151) fun r30 w28 =>
ck (ixn 17 (13 : Int32) = true) <|
ck (ixn 13 (0 : Int32) = true) <|
nn (w_sl w28 50 (0 : Int32).toNatClampNeg ((w28.1 1 (13 : Int32).toNatClampNeg).toInt64)) fun w33 =>
ck (ixn 17 (11 : Int32) = true) <|
ck (ixn 13 (1 : Int32) = true) <|
nn (w_sl w33 50 (1 : Int32).toNatClampNeg ((w33.1 1 (11 : Int32).toNatClampNeg).toInt64)) fun w36 =>
ck (ixn 17 (10 : Int32) = true) <|
ck (ixn 13 (2 : Int32) = true) <|
nn (w_sl w36 50 (2 : Int32).toNatClampNeg ((w36.1 1 (10 : Int32).toNatClampNeg).toInt64)) fun w39 =>
ck (ixn 17 (10 : Int32) = true) <|
cw (p_X12_isTunnel G (w39.1 1 (10 : Int32).toNatClampNeg) w39) fun r43 w41 =>
nn (fun (s0_224 : Int64) => (ck (ixn 13 (3 : Int32) = true) <|
nn (w_sl w41 50 (3 : Int32).toNatClampNeg s0_224) fun w45 =>
cw (p_X12_nextTunnel G w45) fun r48 w46 =>
ck (ixn 13 (4 : Int32) = true) <|
nn (w_sl w46 50 (4 : Int32).toNatClampNeg r48.toInt64) fun w50 =>
nn (fun (s0_260 : Int64) (h_260 : MS) => (ck (ixn 13 (5 : Int32) = true) <|
nn (w_sl h_260 50 (5 : Int32).toNatClampNeg s0_260) fun w52 =>
cw (p_X12_middleOf G v1_151 w52) fun r55 w53 =>
ck (ixn 13 (6 : Int32) = true) <|
nn (w_sl w53 50 (6 : Int32).toNatClampNeg r55.toInt64) fun w57 =>
cw (p_X12_mostWanted G v1_151 w57) fun r60 w58 =>
ck (ixn 13 (7 : Int32) = true) <|
nn (w_sl w58 50 (7 : Int32).toNatClampNeg r60.toInt64) fun w62 =>
ck (ixn 13 (8 : Int32) = true) <|
nn (w_sl w62 50 (8 : Int32).toNatClampNeg v2_151.toInt64) fun w64 =>
ck (ixn 13 (9 : Int32) = true) <|
nn (w_sl w64 50 (9 : Int32).toNatClampNeg v3_151.toInt64) fun w66 =>
ck (ixn 13 (10 : Int32) = true) <|
nn (w_sl w66 50 (10 : Int32).toNatClampNeg v1_151.toInt64) fun w68 =>
ck (ixn 13 (11 : Int32) = true) <|
nn (w_sl w68 50 (11 : Int32).toNatClampNeg v4_151.toInt64) fun w70 =>
ck (ixn 17 (12 : Int32) = true) <|
ck (ixn 13 (12 : Int32) = true) <|
nn (w_sl w70 50 (12 : Int32).toNatClampNeg ((w70.1 1 (12 : Int32).toNatClampNeg).toInt64)) fun w73 =>
some w73)) fun j_260 =>
if r30 = (-1 : Int32) then (j_260 (-1 : Int64) w50) else
cw (p_X12_wantOf G r30 w50) fun r77 w75 =>
j_260 r77.toInt64 w75)) fun j_224 =>
if r43 = 0 then (j_224 (0 : Int64)) else
j_224 (1 : Int64)))) bN (0 : Int32) (0 : Int32) (0 : Int32) (0 : Int32) (0 : Int32) h_33)) 6 0 bN w rfl (bN_gt (by decide))
  have hI : AI w 0 w1 := ⟨f2, f3, fun j hj => by rw [f4, if_pos (by omega)]; rfl⟩
  obtain ⟨w2, g1, g2⟩ := ask_loop (G := G) hS (sN w.1) 0 bN w1 (Nat.zero_add _) (bN8 hS) hI
  obtain ⟨k1, k2, k3⟩ := g1
  have e17 : ∀ r, 1 ≤ r → r ≤ 17 → w2.1 r = w.1 r := fun r _ h2 => k1 r (by omega)
  have hS2 : St w2.1 := hS.cg (fun r h1 h2 _ => e17 r h1 h2)
  have eN := sN_cg e17
  rw [nI_0] at f1
  have z0 : NA w.1 0 = 0 := rfl
  have z1 : MO w.1 0 = 0 := rfl
  have z2 : LE w.1 0 = 0 := rfl
  have z3 : CX w.1 0 = 0 := rfl
  simp only [nI_0, z0, z1, z2, z3] at g2
  have T1 : ∀ (W : MS) (m : Int32), W.1 = w2.1 → p_X12_isTunnel G m W = some (if tunV w2.1 m then 1 else 0, W) := fun W m e => by
    have := p_isTunnel (G := G) (w := W) (by rw [e]; exact hS2) m
    rw [e] at this; exact this
  have T2 : ∀ (W : MS), W.1 = w2.1 → p_X12_nextTunnel G W = some (soonV w2.1 (w2.1 1 10), W) := fun W e => by
    have := p_nextTunnel (G := G) (w := W) (by rw [e]; exact hS2)
    rw [e] at this; exact this
  have hw52 : ∀ (W : MS), W.1 = w2.1 → ∀ j, j < 6 → W.1 52 j = nI (cwn w2.1 (sN w2.1) j) := fun W e j hj => by
    rw [e, k3 j hj, WC_n, cwn_cg e17, eN]
  have eNA : NA w.1 (sN w.1) = nI (nan w2.1 (sN w2.1)) := by rw [NA_n, nan_cg e17, eN]
  have T3 : ∀ (W : MS), W.1 = w2.1 → p_X12_middleOf G (nI (nan w2.1 (sN w2.1))) W = some (midF (cwn w2.1 (sN w2.1)) (nan w2.1 (sN w2.1)) (w2.1 1 13) 6 0 0, W) := fun W e => by
    have := p_middleOf (G := G) (w := W) hS2 (hw52 W e)
    rw [e] at this; exact this
  have T4 : ∀ (W : MS), W.1 = w2.1 → p_X12_mostWanted G (nI (nan w2.1 (sN w2.1))) W = some ((mosF (cwn w2.1 (sN w2.1)) (w2.1 1 13) 6 0 (0, w2.1 1 13)).2, W) := fun W e => by
    have := p_mostWanted (G := G) (w := W) hS2 (hw52 W e)
    rw [e] at this; exact this
  have T5 : ∀ (W : MS), W.1 = w2.1 → sitV w2.1 0 ≠ -1 → p_X12_wantOf G (sitV w2.1 0) W = some (WN w2.1 (sN w2.1), W) := fun W e hne => by
    have hw := WN_e hS2
    rw [if_neg hne] at hw
    rw [hw]
    unfold sitV at hne ⊢
    cases e5 : ff (fun q => decide (w2.1 9 q = 0)) (sN w2.1) 0 with
    | none => rw [e5] at hne; exact absurd rfl hne
    | some q =>
      obtain ⟨_, h2, _, _⟩ := ff_some e5
      have h8 := st_N8 hS2
      show p_X12_wantOf G (nI q) W = some (wantV w2.1 (nI q).toNatClampNeg, W)
      rw [nI_clamp (by omega)]
      have := p_wantOf (G := G) (w := W) (q := q) (by rw [e]; exact hS2) (by rw [e]; omega)
      rw [e] at this; exact this
  let W (b : Int64) (t : Int64) : MS := w_sl (w_sl (w_sl (w_sl (w_sl (w_sl (w_sl (w_sl (w_sl (w_sl (w_sl (w_sl (w_sl w2 50 0 (w2.1 1 13).toInt64) 50 1 (w2.1 1 11).toInt64) 50 2 (w2.1 1 10).toInt64) 50 3 t) 50 4 (soonV w2.1 (w2.1 1 10)).toInt64) 50 5 b) 50 6 (midF (cwn w2.1 (sN w2.1)) (nan w2.1 (sN w2.1)) (w2.1 1 13) 6 0 0).toInt64) 50 7 (mosF (cwn w2.1 (sN w2.1)) (w2.1 1 13) 6 0 (0, w2.1 1 13)).2.toInt64) 50 8 (MO w.1 (sN w.1)).toInt64) 50 9 (LE w.1 (sN w.1)).toInt64) 50 10 (nI (nan w2.1 (sN w2.1))).toInt64) 50 11 (CX w.1 (sN w.1)).toInt64) 50 12 (w2.1 1 12).toInt64
  have key : p_X12_asks G w = some (W (WN w2.1 (sN w2.1)).toInt64 ((if tunV w2.1 (w2.1 1 10) then (1 : Int32) else 0).toInt64)) := by
    unfold p_X12_asks
    rw [f1, g2, p_sitterOf hS2 (by decide), u_cw]
    simp only [u_nn, u_ob, u_cb, u_cw, u_ck, on_s, on_n, ix_1_0, ix_7_0, ix_10_0, ix_10_1, ix_10_2, ix_10_3, ix_10_4, ix_10_5, ix_10_6, ix_10_7, ix_10_8, ix_10_9, ix_13_0, ix_13_1, ix_13_2, ix_13_3, ix_13_4, ix_13_5, ix_13_6, ix_13_7, ix_13_8, ix_13_9, ix_13_10, ix_13_11, ix_13_12, ix_17_0, ix_17_1, ix_17_2, ix_17_3, ix_17_4, ix_17_6, ix_17_7, ix_17_8, ix_17_9, ix_17_10, ix_17_11, ix_17_12, ix_17_13, ix_17_14, ix_17_15, ix_17_16, ix_256_0, ix_300_0, tn_0, tn_1, tn_2, tn_3, tn_4, tn_5, tn_6, tn_7, tn_8, tn_9, tn_10, tn_11, tn_12, tn_13, tn_14, tn_15, tn_16, tn_366, w_sl_1]
    rw [T1 _ _ (by rfl), u_cw]
    have fin : ∀ t : Int64, (cw (p_X12_nextTunnel G (w_sl (w_sl (w_sl (w_sl w2 50 0 (w2.1 1 13).toInt64) 50 1 (w2.1 1 11).toInt64) 50 2 (w2.1 1 10).toInt64) 50 3 t)) fun r48 w46 =>
        if sitV w2.1 0 = -1 then cw (p_X12_middleOf G (NA w.1 (sN w.1)) (w_sl (w_sl w46 50 4 r48.toInt64) 50 5 (-1))) fun r55 w53 => cw (p_X12_mostWanted G (NA w.1 (sN w.1)) (w_sl w53 50 6 r55.toInt64)) fun r60 w58 => some (w_sl (w_sl (w_sl (w_sl (w_sl (w_sl w58 50 7 r60.toInt64) 50 8 (MO w.1 (sN w.1)).toInt64) 50 9 (LE w.1 (sN w.1)).toInt64) 50 10 (NA w.1 (sN w.1)).toInt64) 50 11 (CX w.1 (sN w.1)).toInt64) 50 12 (w58.1 1 12).toInt64)
        else cw (p_X12_wantOf G (sitV w2.1 0) (w_sl w46 50 4 r48.toInt64)) fun r77 w75 => cw (p_X12_middleOf G (NA w.1 (sN w.1)) (w_sl w75 50 5 r77.toInt64)) fun r55 w53 => cw (p_X12_mostWanted G (NA w.1 (sN w.1)) (w_sl w53 50 6 r55.toInt64)) fun r60 w58 => some (w_sl (w_sl (w_sl (w_sl (w_sl (w_sl w58 50 7 r60.toInt64) 50 8 (MO w.1 (sN w.1)).toInt64) 50 9 (LE w.1 (sN w.1)).toInt64) 50 10 (NA w.1 (sN w.1)).toInt64) 50 11 (CX w.1 (sN w.1)).toInt64) 50 12 (w58.1 1 12).toInt64)) = some (W (WN w2.1 (sN w2.1)).toInt64 t) := by
      intro t
      rw [T2 _ (by rfl), u_cw, eNA]
      by_cases hs : sitV w2.1 0 = -1
      · rw [if_pos hs, T3 _ (by rfl), u_cw, T4 _ (by rfl), u_cw, WN_e hS2, if_pos hs]; rfl
      · rw [if_neg hs, T5 _ (by rfl) hs, u_cw, T3 _ (by rfl), u_cw, T4 _ (by rfl), u_cw]; rfl
    by_cases ht : tunV w2.1 (w2.1 1 10) = true
    · rw [ht, if_pos rfl, if_neg (by decide)]
      exact fin 1
    · have ht' : tunV w2.1 (w2.1 1 10) = false := by simpa using ht
      rw [ht', if_pos (by decide)]
      exact fin 0
  refine ⟨_, key, fun r hr => k1 r hr, fun i hi => ?_⟩
  rw [← askV_cg e17]
  have eM : MO w.1 (sN w.1) = MO w2.1 (sN w2.1) := by rw [MO_cg e17, eN]
  have eL : LE w.1 (sN w.1) = LE w2.1 (sN w2.1) := by rw [LE_cg e17, eN]
  have eX : CX w.1 (sN w.1) = CX w2.1 (sN w2.1) := by rw [CX_cg e17, eN]
  simp only [W, w_sl_e, true_and, eM, eL, eX]
  match i, hi with
  | 0, _ => simp [askV]
  | 1, _ => simp [askV]
  | 2, _ => simp [askV]
  | 3, _ => simp [askV]
  | 4, _ => simp [askV]
  | 5, _ => simp [askV]
  | 6, _ => simp [askV]
  | 7, _ => simp [askV]
  | 8, _ => simp [askV]
  | 9, _ => simp [askV]
  | 10, _ => simp [askV, NA_n]
  | 11, _ => simp [askV]
  | 12, _ => simp [askV]
end
