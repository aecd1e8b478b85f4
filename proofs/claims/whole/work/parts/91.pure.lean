/-! PURE 91: rests: a row is tried. -/
section
variable {G : GG} {own : Nat → Nat} {R X c t U : Nat} {h h0 h1 h2 h' : AH} {w w0 w' w1 w2 w3 : MS} {v v' v0 : VV}
def StH (h : AH) (X c t : Nat) (vT vC : VV) : Prop := m_t h X = .inl 11 ∧ m_r h X 7 = some (X + 34) ∧ m_r h X 5 = some (X + 10) ∧ m_t h (X + 10) = .inl 6 ∧ m_r h (X + 10) 0 = some c ∧ m_r h X 11 = some (X + 58) ∧ m_t h (X + 58) = .inr (.int, 81) ∧ Cab h (X + 34) t vT ∧ Cab h c t vC
theorem StH.fr {vT vC : VV} (hH : StH h X c t vT vC) (hT : St vT) (hC : St vC) (hc : X + 122 ≤ c) (ht : X + 122 ≤ t) (hF : Fr (fun a => a = X + 58) h h1) : StH h1 X c t vT vC := by
  obtain ⟨a1, a2, a3, a4, a5, a6, a7, a8, a9⟩ := hH
  exact ⟨by rw [hF.1]; exact a1, by rw [hF.2.1]; exact a2, by rw [hF.2.1]; exact a3, by rw [hF.1]; exact a4, by rw [hF.2.1]; exact a5, by rw [hF.2.1]; exact a6, by rw [hF.1]; exact a7, a8.fr (st_N8 hT) hF (fun a z => by omega), a9.fr (st_N8 hC) hF (fun a z => by omega)⟩
theorem stor_both {m P : Nat} (hm : m < 27) (hP : P < 4) {vT vC : VV} (hT : St vT) (hV : St vC) (hc : X + 122 ≤ c) (ht : X + 122 ≤ t) (nT : P ≤ sN vT) (nC : P ≤ sN vC) : ∀ (d j : Nat) (h : AH) (w : MS), j + d = P → StH h X c t vT vC → (∀ i, i < P → w.1 12 i = vT 12 i ∧ w.1 71 i = vC 12 i) → ∃ h' w', (∀ N, d < N → lq1 (F_X11_tryRow_56 G X (nI m) (nI P)) N (nI j) h = some h') ∧ (∀ (v1 v2 v4 : Int32) (K' : MS → Option MS) (N : Nat), d < N → lw1 (P_X12_laysRests_82 G v1 v2 (nI P) v4 (nI m) K') N (nI j) w = K' w') ∧ Fr (fun a => a = X + 58) h h' ∧ Fw (fun r => r = 72) w w' ∧ (∀ i, ¬ (3 * m + j ≤ i ∧ i < 3 * m + P) → m_i h' (X + 58) i = m_i h (X + 58) i ∧ w'.1 72 i = w.1 72 i) ∧ ∀ i, j ≤ i → i < P → m_i h' (X + 58) (3 * m + i) = w'.1 72 (3 * m + i)
  | 0, j, h, w, e, hH, hw => by
    refine ⟨h, w, ?_, ?_, Fr.rf, Fw.rf, fun i _ => ⟨rfl, rfl⟩, fun i h1 h2 => by omega⟩
    · intro N hn
      obtain ⟨N, rfl⟩ : ∃ M, N = M + 1 := ⟨N - 1, by omega⟩
      show F_X11_tryRow_56 G X (nI m) (nI P) _ _ _ = _
      rw [F_X11_tryRow_56, if_pos (nI_le (by omega) (by omega))]
    · intro v1 v2 v4 K' N hn
      obtain ⟨N, rfl⟩ : ∃ M, N = M + 1 := ⟨N - 1, by omega⟩
      show P_X12_laysRests_82 G v1 v2 (nI P) v4 (nI m) K' _ _ _ = _
      rw [P_X12_laysRests_82, if_pos (nI_le (by omega) (by omega))]
  | d + 1, j, h, w, e, hH, hw => by
    have hF : Fr (fun a => a = X + 58) h (m_si h (X + 58) (3 * m + j) (vT 12 j - vC 12 j)) := Fr.si rfl
    obtain ⟨h', w', f1, f2, f3, f4, f5, f6⟩ := stor_both hm hP hT hV hc ht nT nC d (j + 1) (m_si h (X + 58) (3 * m + j) (vT 12 j - vC 12 j)) (w_si w 72 (3 * m + j) (vT 12 j - vC 12 j)) (by omega) (hH.fr hT hV hc ht hF) (fun i hi => by rw [w_si_r (by decide), w_si_r (by decide)]; exact hw i hi)
    obtain ⟨a1, a2, a3, a4, a5, a6, a7, a8, a9⟩ := hH
    refine ⟨h', w', ?_, ?_, hF.tr f3, (Fw.si (S := fun r => r = 72) rfl).tr f4, fun i q => ?_, fun i q1 q2 => ?_⟩
    · intro N hn
      obtain ⟨N, rfl⟩ : ∃ M, N = M + 1 := ⟨N - 1, by omega⟩
      show F_X11_tryRow_56 G X (nI m) (nI P) _ _ _ = _
      rw [F_X11_tryRow_56, if_neg (nI_ge (by omega) (by omega)), u_ck a1, a6, u_ob, c_inTrial a1 a2 a3 a4 a5 a8 hT a9 hV (by omega) (by omega), u_cb, (ix3 m hm j (by omega)).1, u_ck (ixb_e a7 (by omega) (by decide)), u_nn, u_nn, nI_clamp (by omega), nI_1]
      exact f1 N (by omega)
    · intro v1 v2 v4 K' N hn
      obtain ⟨N, rfl⟩ : ∃ M, N = M + 1 := ⟨N - 1, by omega⟩
      show P_X12_laysRests_82 G v1 v2 (nI P) v4 (nI m) K' _ _ _ = _
      rw [P_X12_laysRests_82, if_neg (nI_ge (by omega) (by omega)), u_ck (q8 hT (by omega)), u_ck (q8 hT (by omega)), (ix3 m hm j (by omega)).2, u_ck (u_ixn (by omega) (by decide)), u_nn, u_nn, nI_clamp (by omega), qc hT (by omega), (hw j (by omega)).1, (hw j (by omega)).2, nI_1]
      exact f2 v1 v2 v4 K' N (by omega)
    · obtain ⟨g1, g2⟩ := f5 i (by omega)
      rw [g1, g2]
      exact ⟨m_i_sj (by omega), w_si_j (by omega)⟩
    · by_cases z : i = j
      · subst z
        obtain ⟨g1, g2⟩ := f5 (3 * m + i) (by omega)
        rw [g1, g2, m_i_ss, w_si_s]
      · exact f6 i (by omega) q2
/-- a law's scratch lies beyond the fixed cells -/
theorem law_far (hR : RelO own R h X w) {x : Int32} (hx : x = -1 ∨ ∃ r, r < R ∧ x = nI r) {law : Option Nat} (l1 : f_X11_lawOf G X x h = some (law, h)) : (∀ a, MSc (X + 34) law a → (X + 34 ≤ a ∧ a < X + 39) ∨ X + 122 ≤ a) ∧ ((law = none ∧ x = -1) ∨ ∃ L r, law = some L ∧ x = nI r ∧ r < R ∧ m_r h (X + 9) r = some L) := by
  have hr := hR.2.2.1
  obtain ⟨law', l1', l2⟩ := c_lawOf (G := G) hR.1.1.1 hR.1.1.2.2.2.2.1 hR.1.2.2.1.1 hr.2.2.1 hr.1 hR.2.2.2.1 hx
  rw [l1] at l1'
  cases l1'
  refine ⟨fun a ha => ?_, l2⟩
  rcases ha with ha | ⟨L, e1, ha⟩
  · exact Or.inl (by omega)
  · rcases l2 with ⟨z1, -⟩ | ⟨L2, r, z1, z2, z3, z4⟩
    · rw [z1] at e1; cases e1
    · rw [z1] at e1; cases e1
      obtain ⟨L2, u1, u2, u3, u4, u5, u6⟩ := hR.2.2.2.1 r z3
      rw [u1] at z4; cases z4
      unfold LSc at ha
      exact Or.inr (by omega)
/-- the law's number gives the same law after a trial's steps -/
theorem law_same (hR : RelO own R h X w) (hF : FrQ X R h h1) {r : Nat} (hr : r < R) {law : Option Nat} (l1 : f_X11_lawOf G X (nI r) h1 = some (law, h1)) : f_X11_lawOf G X (nI r) h = some (law, h) := by
  have hx : nI r = -1 ∨ ∃ s, s < R ∧ nI r = nI s := Or.inr ⟨r, hr, rfl⟩
  have h3 := hR.2.2.1
  obtain ⟨law', l1', l2⟩ := c_lawOf (G := G) hR.1.1.1 hR.1.1.2.2.2.2.1 hR.1.2.2.1.1 h3.2.2.1 h3.1 hR.2.2.2.1 hx
  obtain ⟨-, l4⟩ := law_far (hR.frq hF) hx l1
  have hr1 := h3.1
  have nm : nI r ≠ -1 := by
    rw [Ne, I_eq, nI_toInt (by omega)]
    have i1 : (-1 : Int32).toInt = -1 := rfl
    omega
  rcases l2 with ⟨-, z⟩ | ⟨L, s, z1, z2, z3, z4⟩
  · exact absurd z nm
  · rcases l4 with ⟨-, z⟩ | ⟨L', s', y1, y2, y3, y4⟩
    · exact absurd z nm
    · have es : s = s' := by
        have : nI s = nI s' := z2.symm.trans y2
        rw [I_eq, nI_toInt (by omega), nI_toInt (by omega)] at this
        omega
      subst es
      rw [hF.2.2.1 (X + 9) (by omega), z4] at y4
      cases y4
      rw [y1, ← z1]; exact l1'
theorem row_both (hR : RelO own R h X w) (told : w.1 1 0 = 1) {r m n P : Nat} (hr : r < R) (hm : m < 27) (hP : P < 4) (hPN : P ≤ sN w.1) (hn : n ≤ 240) (hmi : (w.1 1 10).toInt + n ≤ 240) : ∃ law h1 w1, f_X11_lawOf G X (nI r) h = some (law, h) ∧ f_X11_tryRow G X (nI m) (nI P) law (nI n) h = some h1 ∧ (∀ (v4 : Int32) (self : Int32 → MS → Option MS), ¬ v4 ≤ nI m → P_X12_laysRests_3 G (nI r) (nI n) (nI P) v4 self (nI m) w = self (nI (m + 1)) w1) ∧ FrQ X R h h1 ∧ WQ w w1 ∧ (∀ i, ¬ (3 * m ≤ i ∧ i < 3 * m + P) → m_i h1 (X + 58) i = m_i h (X + 58) i ∧ w1.1 72 i = w.1 72 i) ∧ ∀ i, i < P → m_i h1 (X + 58) (3 * m + i) = w1.1 72 (3 * m + i) := by
  obtain ⟨U, c, t, hc⟩ := hR.cur
  have hB := hc.1
  have hSt := hc.2.1
  have hS := hSt.1
  obtain ⟨hC, hCa⟩ := hc.2.2.1.cab told
  have hc1 := hCa.1
  have ht1 := hCa.2.2.2.1
  obtain ⟨h7, b1, b2, b3, b4, b5, b6, -, b8, b9⟩ := c_copyFrom (G := G) (c1 := X + 34) hC (st_N8 hS) hR.1.2.2.2.1 (Or.inl (by omega)) (Or.inl (by omega))
  have q7 : FrQ X R h h7 := ⟨b2, b3, b5, fun k hk => b6 k (by omega), fun a q1 q2 => ⟨b8 a (fun z => q1 (Or.inl (by omega))), by rw [b4]⟩, fun k _ => by rw [b8 X (by omega)], by rw [b4]⟩
  obtain ⟨wk, k1, -⟩ := p_keepsAll (G := G) (w := w)
  obtain ⟨kr, kp⟩ := keeps_pw k1
  have ew : PW3 w.1 (w_si wk 1 16 (nI r)).1 := kp.p3.tr (PW3.of1 (by decide))
  have hS4 := hSt.pw ew
  have hC4 : Cab h7 (X + 34) t (w_si wk 1 16 (nI r)).1 := b9.pw hS ew
  have hN4 : sN (w_si wk 1 16 (nI r)).1 = sN w.1 := pwN ew
  have hB7 := hc.frq hR q7
  have hR7 := hR.frq q7
  obtain ⟨h8, w8, d1, d2, d3, d4, d5, d6, d7, -⟩ := lay_both (G := G) (X := X) (t := t) hm hP P 0 h7 (w_si wk 1 16 (nI r)) (Nat.zero_add _) hB7.1.1 hR7.m7 hC4 hS4 (by rw [hN4]; exact hPN)
  have q8' : FrQ X R h h8 := q7.tr (d5.q (fun a z => ⟨Or.inl (by omega), by omega⟩))
  have hR8 := hR.frq q8'
  have hB8 := hc.frq hR q8'
  obtain ⟨law, l1, l2, l3⟩ := trial_law (G := G) hR8 d3 (hCa.frq q8') (x := nI r) (Or.inr ⟨r, hr, rfl⟩) (fun k q1 q2 => by rw [d6 k (by omega), w_si_r (by omega), kr k (by omega) (by omega)]) (by rw [d6 1 (by omega), w_si_s])
  have l0 := law_same hR q8' hr l1
  obtain ⟨l4, -⟩ := law_far hR8 (Or.inr ⟨r, hr, rfl⟩) l1
  have hmk : (w8.1 1 10).toInt = (w.1 1 10).toInt := by rw [d6 1 (by omega), px1 ew (by decide)]
  obtain ⟨h9, w9, g1, g2, g3, g4, g5, g6, g7, g8⟩ := goes_both (G := G) hR8.1.1.1 hR8.m7 (N := n) hn d3 d4 l2 (by omega)
  have q9 : FrQ X R h h9 := q8'.tr (g6.q l3)
  have hB9 := hc.frq hR q9
  have hR9 := hR.frq q9
  have hC9 : Cab h9 c t w.1 := hC.frq (st_N8 hS) hCa hR.2.2.2.1 q9
  have eN : sN w9.1 = sN w.1 := by
    unfold sN; rw [g8 6 (by decide) (by decide) (by decide), d6 1 (by omega)]; exact congrArg _ (px1 ew (by decide))
  have h12 : ∀ q, q < sN w.1 → (w_si wk 1 16 (nI r)).1 12 q = w.1 12 q := fun q hq => px12 ew (by have := st_N8 hS; omega)
  obtain ⟨h10, w10, s1, s2, s3, s4, s5, s6⟩ := stor_both (G := G) (X := X) (c := c) (t := t) hm hP g4.1 hS hc1 ht1 (by rw [eN]; exact hPN) hPN P 0 h9 w9 (Nat.zero_add _) ⟨hB9.1.1, hR9.m7, hB9.1.2.1, hB9.1.2.2.1, hB9.1.2.2.2.1, hR9.1.1.2.2.2.2.2.2.2.2.2.2.2, hR9.1.2.2.1.2.2, g3, hC9⟩ (fun i hi => ⟨rfl, by rw [g7 71 (by unfold MRw; omega), d7 i (Nat.zero_le _) hi, h12 i (by omega)]⟩)
  have q10 : FrQ X R h h10 := q9.tr (s3.q (fun a z => ⟨Or.inl (by omega), by omega⟩))
  have hs : ∀ r, r = 0 ∨ (3 ≤ r ∧ r ≤ 7) ∨ (13 ≤ r ∧ r ≤ 19) ∨ (42 ≤ r ∧ r ≤ 48) ∨ r = 53 ∨ r = 81 ∨ r = 82 → w10.1 r = wk.1 r := fun r hr => by
    rw [s4 r (by omega), g7 r (by unfold MRw; omega), d6 r (by omega), w_si_r (by omega)]
  obtain ⟨w11, e1, e2, e3⟩ := kb (G := G) k1 hs
  refine ⟨law, h10, w11, l0, ?_, ?_, q10, e2, fun i hi => ?_, fun i hi => ?_⟩
  · unfold f_X11_tryRow
    rw [u_ck hB.1.1, hR.m7, u_ob, hB.1.2.1, u_ob, u_ck hB.1.2.2.1, hB.1.2.2.2.1, u_ob, u_ck hR.1.2.2.2.1.1, b1, u_ob, show (0 : Int32) = nI 0 from rfl, d1 law (nI n) _ bN (bN_gt (by omega)), u_ck hB8.1.1, g1, u_ob]
    exact s1 bN (bN_gt (by omega))
  · intro v4 self hv
    rw [P_X12_laysRests_3, if_neg hv, k1, u_ob, u_ck ix_17_16, u_nn, tn_16, show (0 : Int32) = nI 0 from rfl, d2 (nI r) (nI n) v4 _ bN (bN_gt (by omega)), g2, u_cw, s2 (nI r) (nI n) v4 _ bN (bN_gt (by omega)), e1, u_ob, u_nn, nI_1]
  · have z0 : m_i h9 (X + 58) = m_i h (X + 58) := by
      rw [(g6.2.2.2 (X + 58) (fun z => by have := l4 _ z; omega)).1, (d5.2.2.2 (X + 58) (fun z => by omega)).1, b8 (X + 58) (by omega)]
    have z1 : w9.1 72 = w.1 72 := by
      rw [g7 72 (by unfold MRw; omega), d6 72 (by omega), w_si_r (by decide), kr 72 (by decide) (by decide)]
    obtain ⟨y1, y2⟩ := s5 i (by omega)
    rw [y1, z0, e3 72 (by decide), y2, z1]
    exact ⟨rfl, rfl⟩
  · rw [s6 i (Nat.zero_le _) hi, e3 72 (by decide)]
end
