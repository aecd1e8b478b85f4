/-! PURE 89: gains. -/
section
variable {G : GG} {own : Nat → Nat} {R X c t U q : Nat} {h h0 h1 h2 h' : AH} {w w0 w' w1 w2 w3 : MS} {v v' v0 : VV} {V : Int32 → Int32} {r m y : Int32}
def nS (V : Int32 → Int32) (L l n : Int32) : Int32 := if l = L then V l else n
def gS2 (V : Int32 → Int32) (k : Nat) (a : Int32 × Int32) : Int32 × Int32 := gS V (nI k) (gS V (-nI k) a)
def nS2 (V : Int32 → Int32) (L : Int32) (k : Nat) (n : Int32) : Int32 := nS V L (nI k) (nS V L (-nI k) n)
def GnC (G : GG) (R X c t q : Nat) (h0 : AH) (v : VV) (V : Int32 → Int32) (r m : Int32) : Prop := St v ∧ q < sN v ∧ (∀ h, FrQ X R h0 h → m_t h X = .inl 11 ∧ Cab h c t v) ∧ ∀ l h, bd l (-9) 9 → FrQ X R h0 h → ∃ h1, f_X11_sufferedWithLie G X (nI q) r m l h = some (V l, h1) ∧ FrQ X R h0 h1
theorem gn_c1 (hG : GnC G R X c t q h0 v V r m) {k : Nat} {l a b n : Int32} {K : Int32 → Int32 → Int32 → AH → Option (Int32 × AH)} {self : Int32 → Int32 → Int32 → Int32 → AH → Option (Int32 × AH)} (hl : bd l (-9) 9) (hk : ¬ nI k < l) (hF : FrQ X R h0 h) : ∃ h1, F_X11_gains_88 G X (nI q) r m y c (nI k) K self a b n l h = self (gS V l (a, b)).1 (gS V l (a, b)).2 (nS V (v 8 q) l n) (l + 2 * nI k) h1 ∧ FrQ X R h0 h1 := by
  obtain ⟨hS, hq, hT, hV⟩ := hG
  obtain ⟨h1, e1, e2⟩ := hV l h hl hF
  obtain ⟨-, hC⟩ := hT h1 e2
  refine ⟨h1, ?_, e2⟩
  rw [F_X11_gains_88, if_neg hk, u_ck (hT h hF).1, e1, u_cb, u_nn]
  have aux : ∀ A B : Int32, (ck (m_t h1 c = .inl 0) <| ob (m_r h1 c 9) fun b36 => ck (ixb h1 b36 .int (nI q) = true) <| nn (fun (v8_137 : Int32) => (nn (l + ((2 : Int32) * nI k)) fun x39 => self A B v8_137 x39 h1)) fun j_137 => if l = (m_i h1 b36 (nI q).toNatClampNeg) then (j_137 (V l)) else j_137 n) = self A B (nS V (v 8 q) l n) (l + 2 * nI k) h1 := fun A B => by
    rw [u_ck (cab_t hC), cab_9 hC, u_ob, u_ck (cab_x4 hC hS hq), u_nn, qc hS hq, cab_v4 hC hq]
    unfold nS
    by_cases z : l = v 8 q
    · rw [if_pos z, if_pos z]; rfl
    · rw [if_neg z, if_neg z]; rfl
  unfold gS
  by_cases z : b ≤ V l
  · rw [if_pos z, if_pos z]; exact aux _ _
  · rw [if_neg z, if_neg z]; exact aux _ _
theorem gn_c2 (hG : GnC G R X c t q h0 v V r m) {k : Nat} (hk1 : 1 ≤ k) (hk9 : k ≤ 9) {K : Int32 → Int32 → Int32 → AH → Option (Int32 × AH)} : ∀ N, 2 < N → ∀ (a b n : Int32) (h : AH), FrQ X R h0 h → ∃ h1, lq4 (F_X11_gains_88 G X (nI q) r m y c (nI k) K) N a b n (-nI k) h = K (gS2 V k (a, b)).1 (gS2 V k (a, b)).2 (nS2 V (v 8 q) k n) h1 ∧ FrQ X R h0 h1
  | 0, z => by omega
  | 1, z => by omega
  | 2, z => by omega
  | N + 3, _ => fun a b n h hF => by
    obtain ⟨m1, m2, m3, m4, m5, m6⟩ := neg_mul1 k hk9
    obtain ⟨b1, b2⟩ := bd_k k hk9
    obtain ⟨h1, e1, f1⟩ := gn_c1 (y := y) (a := a) (b := b) (n := n) (K := K) (self := lq4 (F_X11_gains_88 G X (nI q) r m y c (nI k) K) (N + 2)) hG b2 m4 hF
    obtain ⟨h2, e2, f2⟩ := gn_c1 (y := y) (a := (gS V (-nI k) (a, b)).1) (b := (gS V (-nI k) (a, b)).2) (n := nS V (v 8 q) (-nI k) n) (K := K) (self := lq4 (F_X11_gains_88 G X (nI q) r m y c (nI k) K) (N + 1)) (k := k) hG b1 (fun z => by rw [I_lt] at z; omega) f1
    refine ⟨h2, ?_, f2⟩
    show F_X11_gains_88 G X (nI q) r m y c (nI k) K _ _ _ _ _ _ = _
    rw [e1, m3]
    show F_X11_gains_88 G X (nI q) r m y c (nI k) K _ _ _ _ _ _ = _
    rw [e2]
    show F_X11_gains_88 G X (nI q) r m y c (nI k) K _ _ _ _ _ _ = _
    rw [F_X11_gains_88, if_pos (m5 (by omega))]
    rfl
theorem gn_c3 (hG : GnC G R X c t q h0 v V r m) {K : Int32 → Int32 → Int32 → AH → Option (Int32 × AH)} : ∀ (d k N : Nat) (a b n : Int32) (h : AH), 1 ≤ k → k + d = 10 → d < N → FrQ X R h0 h → ∃ h1, lq4 (F_X11_gains_76 G X (nI q) r m y c K) N a b n (nI k) h = K (fs (gS2 V) d k (a, b)).1 (fs (gS2 V) d k (a, b)).2 (fs (nS2 V (v 8 q)) d k n) h1 ∧ FrQ X R h0 h1
  | 0, k, N + 1, a, b, n, h, h1, e, _, hF => by
    have : k = 10 := by omega
    subst this
    refine ⟨h, ?_, hF⟩
    show F_X11_gains_76 G X (nI q) r m y c K _ _ _ _ _ _ = _
    rw [F_X11_gains_76, if_pos (by decide)]; rfl
  | d + 1, k, N + 1, a, b, n, h, h1, e, hN, hF => by
    obtain ⟨h2, e2, f2⟩ := gn_c2 (y := y) (K := fun v6_149 v7_149 v8_149 h_149 => nn (nI k + (1 : Int32)) fun x42 => lq4 (F_X11_gains_76 G X (nI q) r m y c K) N v6_149 v7_149 v8_149 x42 h_149) hG h1 (show k ≤ 9 by omega) bN (bN_gt (by decide)) a b n h hF
    obtain ⟨h3, e3, f3⟩ := gn_c3 hG (K := K) d (k + 1) N (gS2 V k (a, b)).1 (gS2 V k (a, b)).2 (nS2 V (v 8 q) k n) h2 (by omega) (by omega) (by omega) f2
    refine ⟨h3, ?_, f3⟩
    show F_X11_gains_76 G X (nI q) r m y c K _ _ _ _ _ _ = _
    rw [F_X11_gains_76, if_neg (fun z => by rw [I_lt, nI_toInt (show k < 2 ^ 31 by omega)] at z; exact absurd z (by have i9 : (9 : Int32).toInt = 9 := rfl; omega)), u_nn, e2, u_nn, nI_1]
    exact e3
def GnP (G : GG) (q : Nat) (w0 : MS) (V : Int32 → Int32) (r m : Int32) : Prop := ∀ l w, bd l (-9) 9 → WQ w0 w → ∃ w1, p_X12_sufferWith G (nI q) r m l w = some (V l, w1) ∧ WQ w0 w1
theorem gn_p1 (hG : GnP G q w0 V r m) {k l s a b : Int32} {K : Int32 → Int32 → MS → Option (Int32 × MS)} {self : Int32 → Int32 → Int32 → MS → Option (Int32 × MS)} (hl : bd l (-9) 9) (hs : ¬ 1 < s) (e : k * s = l) (hF : WQ w0 w) : ∃ w1, P_X12_gains_76 G (nI q) r m y k K self a b s w = self (gS V l (a, b)).1 (gS V l (a, b)).2 (s + 2) w1 ∧ WQ w0 w1 := by
  obtain ⟨w1, e1, e2⟩ := hG l w hl hF
  refine ⟨w1, ?_, e2⟩
  rw [P_X12_gains_76, if_neg hs, e, e1, u_cw, u_nn]
  unfold gS
  by_cases z : b ≤ V l
  · rw [if_pos z, if_pos z]; show (if b ≤ V l then self a b (s + 2) w1 else self a (V l) (s + 2) w1) = _; rw [if_pos z]
  · rw [if_neg z, if_neg z]; show (if b ≤ V l then self l b (s + 2) w1 else self l (V l) (s + 2) w1) = _; rw [if_neg z]
theorem gn_p2 (hG : GnP G q w0 V r m) {k : Nat} (hk9 : k ≤ 9) {K : Int32 → Int32 → MS → Option (Int32 × MS)} : ∀ N, 2 < N → ∀ (a b : Int32) (w : MS), WQ w0 w → ∃ w1, lw3 (P_X12_gains_76 G (nI q) r m y (nI k) K) N a b (-1) w = K (gS2 V k (a, b)).1 (gS2 V k (a, b)).2 w1 ∧ WQ w0 w1
  | 0, z => by omega
  | 1, z => by omega
  | 2, z => by omega
  | N + 3, _ => fun a b w hF => by
    obtain ⟨m1, m2, m3, m4, m5, m6⟩ := neg_mul1 k hk9
    obtain ⟨b1, b2⟩ := bd_k k hk9
    obtain ⟨w1, e1, f1⟩ := gn_p1 (y := y) (a := a) (b := b) (s := -1) (K := K) (self := lw3 (P_X12_gains_76 G (nI q) r m y (nI k) K) (N + 2)) hG b2 (by decide) m1 hF
    obtain ⟨w2, e2, f2⟩ := gn_p1 (y := y) (a := (gS V (-nI k) (a, b)).1) (b := (gS V (-nI k) (a, b)).2) (s := -1 + 2) (K := K) (self := lw3 (P_X12_gains_76 G (nI q) r m y (nI k) K) (N + 1)) hG b1 (by decide) m6 f1
    refine ⟨w2, ?_, f2⟩
    show P_X12_gains_76 G (nI q) r m y (nI k) K _ _ _ _ _ = _
    rw [e1]
    show P_X12_gains_76 G (nI q) r m y (nI k) K _ _ _ _ _ = _
    rw [e2]
    show P_X12_gains_76 G (nI q) r m y (nI k) K _ _ _ _ _ = _
    rw [P_X12_gains_76, if_pos (by decide)]
    rfl
theorem gn_p3 (hG : GnP G q w0 V r m) {K : Int32 → Int32 → MS → Option (Int32 × MS)} : ∀ (d k N : Nat) (a b : Int32) (w : MS), k + d = 10 → d < N → WQ w0 w → ∃ w1, lw3 (P_X12_gains_66 G (nI q) r m y K) N a b (nI k) w = K (fs (gS2 V) d k (a, b)).1 (fs (gS2 V) d k (a, b)).2 w1 ∧ WQ w0 w1
  | 0, k, N + 1, a, b, w, e, _, hF => by
    have : k = 10 := by omega
    subst this
    refine ⟨w, ?_, hF⟩
    show P_X12_gains_66 G (nI q) r m y K _ _ _ _ _ = _
    rw [P_X12_gains_66, if_pos (by decide)]; rfl
  | d + 1, k, N + 1, a, b, w, e, hN, hF => by
    obtain ⟨w2, e2, f2⟩ := gn_p2 (y := y) (K := fun v5_137 v6_137 h_137 => nn (nI k + (1 : Int32)) fun x32 => lw3 (P_X12_gains_66 G (nI q) r m y K) N v5_137 v6_137 x32 h_137) hG (show k ≤ 9 by omega) bN (bN_gt (by decide)) a b w hF
    obtain ⟨w3, e3, f3⟩ := gn_p3 hG (K := K) d (k + 1) N (gS2 V k (a, b)).1 (gS2 V k (a, b)).2 w2 (by omega) (by omega) f2
    refine ⟨w3, ?_, f3⟩
    show P_X12_gains_66 G (nI q) r m y K _ _ _ _ _ = _
    rw [P_X12_gains_66, if_neg (fun z => by rw [I_lt, nI_toInt (show k < 2 ^ 31 by omega)] at z; exact absurd z (by have i9 : (9 : Int32).toInt = 9 := rfl; omega)), e2, u_nn, nI_1]
    exact e3
/-- the lie that is told now was met on the way -/
theorem now_V {L : Int32} (hL : bd L (-9) 9) : fs (nS2 V L) 9 1 (V 0) = V L := by
  have key : ∀ (d k : Nat) (n : Int32), 1 ≤ k → k + d = 10 → (L.toInt.natAbs < k → n = V L) → fs (nS2 V L) d k n = V L := by
    intro d
    induction d with
    | zero => intro k n h1 e hn; exact hn (by unfold bd at hL; omega)
    | succ d ih =>
      intro k n h1 e hn
      refine ih (k + 1) _ (by omega) (by omega) (fun z => ?_)
      have i1 := nI_toInt (n := k) (by omega)
      have i2 := sb_negT (w := k) (by omega)
      unfold nS2 nS
      by_cases q1 : nI k = L
      · rw [if_pos q1, q1]
      · rw [if_neg q1]
        by_cases q2 : -nI k = L
        · rw [if_pos q2, q2]
        · rw [if_neg q2]
          rw [I_eq] at q1 q2
          exact hn (by omega)
  refine key 9 1 (V 0) (by decide) (by decide) (fun z => ?_)
  have : L.toInt = (0 : Int32).toInt := by have i0 : (0 : Int32).toInt = 0 := rfl; omega
  rw [(I_eq (a := L) (b := 0)).mpr this]
theorem p_isRule (hw : w.1 0 36 = nI R) (x : Int32) : p_X12_isRule G x w = some (if 0 ≤ x ∧ x ≤ nI R - 1 then 1 else 0, w) := by
  unfold p_X12_isRule
  rw [hw, show p_X12_in G x.toInt64 (0 : Int64) ((nI R - 1).toInt64) w = some (if 0 ≤ x ∧ x ≤ nI R - 1 then 1 else 0, w) from p_in_i G x 0 (nI R - 1) w, u_cw]
  by_cases z : 0 ≤ x ∧ x ≤ nI R - 1
  · rw [if_pos z]; rfl
  · rw [if_neg z]; rfl
theorem call_gains (x y z u : Int32) : Call X (f_X11_gains G X x y z u) (p_X12_gains G x y z u) := by
  intro h w ⟨own, R, hR⟩
  obtain ⟨U, c, t, hc⟩ := hR.cur
  have hB := hc.1
  have hSt := hc.2.1
  have hS := hSt.1
  have hr := hR.2.2.1
  have pin1 : ∀ w : MS, p_X12_in G u.toInt64 (0 : Int64) (1 : Int64) w = some (if 0 ≤ u ∧ u ≤ 1 then 1 else 0, w) := fun w => p_in_i G u 0 1 w
  unfold f_X11_gains p_X12_gains
  rw [u_ck hB.1.1, hB.1.2.1, u_ob, u_ck hB.1.2.2.1, hB.1.2.2.2.1, u_ob, u_ck hB.1.2.2.2.2.1, hB.1.2.2.2.2.2.1, u_ob, u_ck hB.1.2.2.2.2.2.2, c_hasPersonB hB hS, u_cb, p_isPerson, u_cw]
  by_cases h1 : 0 ≤ x ∧ x ≤ w.1 1 6 - 1
  rotate_left
  · rw [if_neg h1, if_pos rfl, if_pos rfl]; exact stay hR _
  obtain ⟨q, hq, rfl⟩ := in_N' hS h1
  have told : w.1 1 0 = 1 := (told01 hS).resolve_left (fun e => by rw [told_N hS e] at hq; omega)
  obtain ⟨hC, hCa⟩ := hc.2.2.1.cab told
  rw [if_pos h1, if_neg n10, if_neg n10, u_ck hB.1.1, c_hasLaw hB.1.1 hr.2.2.1 hr.1, u_cb, p_isRule hr.2.1, u_cw]
  by_cases h2 : 0 ≤ y ∧ y ≤ nI R - 1
  rotate_left
  · rw [if_neg h2, if_pos rfl, if_pos rfl]; exact stay hR _
  obtain ⟨r, hr2, rfl⟩ := law_in hr.1 h2
  rw [if_pos h2, if_neg n10, if_neg n10, u_ck hB.1.1, c_canTry hB hS, u_cb, pin160, u_cw, rng_ge (N := 1)]
  by_cases h3 : 1 ≤ z ∧ z ≤ 60
  rotate_left
  · rw [if_neg h3, if_pos rfl, if_neg (show ¬ (w.1 1 0 = 1 ∧ (1 ≤ z ∧ z ≤ 60) ∧ z ≤ 240 - w.1 1 10) from fun e => h3 e.2.1), if_pos rfl]; exact stay hR _
  rw [if_pos h3, if_neg n10, p_milesLeft, u_cw]
  by_cases h4 : z ≤ 240 - w.1 1 10
  rotate_left
  · rw [if_pos (show 240 - w.1 1 10 < z by rw [I_le] at h4; rw [I_lt]; omega), if_neg (show ¬ (w.1 1 0 = 1 ∧ (1 ≤ z ∧ z ≤ 60) ∧ z ≤ 240 - w.1 1 10) from fun e => h4 e.2.2), if_pos rfl]; exact stay hR _
  rw [if_neg (show ¬ 240 - w.1 1 10 < z by rw [I_le] at h4; rw [I_lt]; omega), if_pos (show (w.1 1 0 = 1 ∧ (1 ≤ z ∧ z ≤ 60) ∧ z ≤ 240 - w.1 1 10) from ⟨told, h3, h4⟩), if_neg n10, pin1, u_cw]
  by_cases h5 : 0 ≤ u ∧ u ≤ 1
  rotate_left
  · rw [if_neg h5, if_neg h5, if_pos rfl]; exact stay hR _
  obtain ⟨n, rfl, hn1, hn2⟩ := nat_of (x := z) (L := 240 - w.1 1 10) ⟨by have := h3.1; rw [I_le] at this ⊢; have i1 : (1 : Int32).toInt = 1 := rfl; have i0 : (0 : Int32).toInt = 0 := rfl; omega, h4⟩
  have hleft := left_i hS
  have hm0 := (st_mile hS).1
  obtain ⟨V, hV⟩ := sw_det (G := G) hR told hq hr2 (n := n) (by omega) (by omega)
  rw [if_pos h5, if_pos h5, if_neg n10, u_ck hB.1.1]
  have hL9 : bd (w.1 8 q) (-9) 9 := (st_P hS hq).2.2.2.2.2.2.1
  have g1 : GnC G R X c t q h w.1 V (nI r) (nI n) := ⟨hS, hq, fun h1 hF => ⟨(hc.frq hR hF).1.1, hC.frq (st_N8 hS) hCa hR.2.2.2.1 hF⟩, fun l h1 hl hF => by
    obtain ⟨h2, w2, e1, -, e3, -⟩ := hV l h1 w hl hF WQ.rf
    exact ⟨h2, e1, e3⟩⟩
  have g2 : GnP G q w V (nI r) (nI n) := fun l w1 hl hW => by
    obtain ⟨h2, w2, -, e2, -, e4⟩ := hV l h w1 hl FrQ.rf hW
    exact ⟨w2, e2, e4⟩
  have b0 : bd (0 : Int32) (-9) 9 := (bd_k 0 (by decide)).1
  obtain ⟨h2', e1, f1⟩ := g1.2.2.2 0 h b0 FrQ.rf
  obtain ⟨w2', e2, f2⟩ := g2 0 w b0 WQ.rf
  rw [e1, u_cb, e2, u_cw]
  obtain ⟨h3', e3, f3⟩ := gn_c3 (y := u) g1 (K := fun v6_155 v7_155 v8_155 h_155 => if u = 0 then (some (v6_155, h_155)) else some (v8_155 - v7_155, h_155)) 9 1 bN 0 (V 0) (V 0) h2' (by decide) (by decide) (bN_gt (by decide)) f1
  obtain ⟨w3', e4, f4⟩ := gn_p3 (y := u) g2 (K := fun v5_143 v6_143 h_143 => if u = 0 then (some (v5_143, h_143)) else ck (ixn 8 (nI q) = true) <| cw (p_X12_sufferWith G (nI q) (nI r) (nI n) (h_143.1 8 (nI q).toNatClampNeg) h_143) fun r37 w35 => some (r37 - v6_143, w35)) 9 1 bN 0 (V 0) w2' (by decide) (bN_gt (by decide)) f2
  rw [show (1 : Int32) = nI 1 from rfl, e3, e4, now_V hL9]
  by_cases u0 : u = 0
  · rw [if_pos u0, if_pos u0]
    exact ⟨_, _, _, rfl, rfl, ⟨own, R, (hR.frq f3).wq f4⟩, f3.kp hR⟩
  · obtain ⟨w4, e5, f5⟩ := g2 (w.1 8 q) w3' hL9 f4
    rw [if_neg u0, if_neg u0, u_ck (q8 hS hq), qc hS hq, pw8 f4.1 (by have := st_N8 hS; omega), e5, u_cw]
    exact ⟨_, _, _, rfl, rfl, ⟨own, R, (hR.frq f3).wq f5⟩, f3.kp hR⟩
end
