/-! PURE 98x: who sits where: the class finds the least. -/
section
variable {G : GG} {own : Nat → Nat} {R X c t U : Nat} {h h1 h2 h' : AH} {w w' w1 w2 w3 x x1 x2 x' : MS} {v v' : VV}
/-- the row of those who sit -/
def Gat (X : Nat) (h : AH) (v : VV) : Prop := m_i h (X + 39) 1 = nI (nSt v) ∧ ∀ k, k < nSt v → m_i h (X + 40) k = nI (sq v k)
theorem sq_ok {k : Nat} (hk : k < nSt v) : sq v k < sN v ∧ sit1 v (sq v k) = true ∧ rowC (sit1 v) (sq v k) = k := enu_ok (sit1 v) hk
theorem une_in (hC : Cab h c t v) (hS : St v) (hX : X + 58 ≤ c ∧ X + 58 ≤ t) (hG : GT h X) (hT : Gat X h v) {b k : Nat} (hb : b < 6) (hk : k < nSt v) : ∀ (d s n : Nat) (h' : AH), s + d = 8 → d < n → Fr (fun a => a = X + 41) h h' → (∀ r, r < s → m_i h' (X + 41) (8 * k + r) = nI (en (coV v b k r))) → (∀ j, j < 8 * k → m_i h' (X + 41) j = m_i h (X + 41) j) → ∃ h2, Fr (fun a => a = X + 41) h h2 ∧ (∀ r, r < 8 → m_i h2 (X + 41) (8 * k + r) = nI (en (coV v b k r))) ∧ (∀ j, j < 8 * k → m_i h2 (X + 41) j = m_i h (X + 41) j) ∧ ∀ K, lq1 (F_X7_leastBy_21 G (X + 39) c (nI b) (tollV v (nI b)) (nI k) K) n (nI s) h' = K h2
  | 0, s, n + 1, h', e, _, hF, h1, h2 => by
    refine ⟨h', hF, fun r hr => h1 r (by omega), h2, fun K => ?_⟩
    show F_X7_leastBy_21 G (X + 39) c (nI b) (tollV v (nI b)) (nI k) K _ _ _ = _
    rw [F_X7_leastBy_21, if_pos (show (8 : Int32) ≤ nI s from nI_le (a := 8) (by omega) (by omega))]
  | d + 1, s, n + 1, h', e, hn, hF, h1, h2 => by
    have h8 := nSt_8 hS
    have hC' : Cab h' c t v := hC.fr (st_N8 hS) hF (fun a ha => by omega)
    have hG' := hG.fr hF
    have hq := sq_ok hk
    have hs8 : bd (nI s) (-1) 7 := by unfold bd; rw [nI_toInt (by omega)]; omega
    obtain ⟨a, ha, ea⟩ := cst_n hS hq.1 (show s < 8 by omega) hb
    have ec : en (coV v b k s) = if s < 4 ∨ fro v (sq v k) = 0 then a else 268435456 := by
      unfold coV
      by_cases z : s < 4 ∨ fro v (sq v k) = 0
      · rw [if_pos z, if_pos z, ea, nI_clamp (by omega)]; show min 10000 a = a; omega
      · rw [if_neg z, if_neg z]; rfl
    obtain ⟨h3, c1, c2, c3, c4⟩ := une_in hC hS hX hG hT hb hk d (s + 1) n (m_si h' (X + 41) (8 * k + s) (nI (en (coV v b k s)))) (by omega) (by omega) (hF.tr Fr.s1) (fun r hr => by
      by_cases z : r = s
      · subst z; rw [m_i_ss]
      · rw [m_i_sj (by omega)]; exact h1 r (by omega)) (fun j hj => by rw [m_i_sj (by omega)]; exact h2 j hj)
    refine ⟨h3, c1, c2, c3, fun K => ?_⟩
    show F_X7_leastBy_21 G (X + 39) c (nI b) (tollV v (nI b)) (nI k) K _ _ _ = _
    have x40 : ixb h' (X + 40) .int (nI k) = true := ixb_e (n := 8) hG'.2.2.2.2.2.1 (by omega) (by decide)
    have e40 : m_i h' (X + 40) (nI k).toNatClampNeg = nI (sq v k) := by rw [nI_clamp (by omega), (hF.2.2.2 (X + 40) (by omega)).1]; exact hT.2 k hk
    have el : nI s < 4 ↔ s < 4 := nI_ltI (b := 4) (by omega) (by omega)
    rw [F_X7_leastBy_21, if_neg (show ¬ (8 : Int32) ≤ nI s from nI_ge (b := 8) (by omega) (by omega)), u_ck hG'.1, hG'.2.1, u_ob, u_ck x40, u_ck (cab_t hC'), e40, c_unease hC' hS hq.1 hs8, u_cb, u_nn, u_ck hG'.1, hG'.2.2.1, u_ob, hG'.2.1, u_ob, u_ck x40, u_ck (cab_t hC'), e40, c_takes hC' hS hq.1, u_cb, u_nn, ea]
    by_cases z : s < 4 ∨ fro v (sq v k) = 0
    · rw [if_pos z] at ec
      rw [if_pos (show nI s < 4 ∨ fro v (sq v k) = 0 from z.imp el.mpr id), if_neg n10]; dsimp only
      rw [i8, u_ck (ixb_e (n := 64) hG'.2.2.2.2.2.2.1 (by omega) (by decide)), u_nn, nI_clamp (by omega), u_nn, nI_1, ← ec]
      exact c4 K
    · rw [if_neg z] at ec
      rw [if_neg (show ¬ (nI s < 4 ∨ fro v (sq v k) = 0) from fun q => z (q.imp el.mp id)), if_pos rfl]; dsimp only
      rw [i8, u_ck (ixb_e (n := 64) hG'.2.2.2.2.2.2.1 (by omega) (by decide)), u_nn, nI_clamp (by omega), u_nn, nI_1, show (268435456 : Int32) = nI (en (coV v b k s)) by rw [ec]; rfl]
      exact c4 K
theorem une_loop (hC : Cab h c t v) (hS : St v) (hX : X + 58 ≤ c ∧ X + 58 ≤ t) (hG : GT h X) (hT : Gat X h v) {b : Nat} (hb : b < 6) : ∀ (d k n : Nat) (h' : AH), k + d = nSt v → d < n → Fr (fun a => a = X + 41) h h' → (∀ i r, i < k → r < 8 → m_i h' (X + 41) (8 * i + r) = nI (en (coV v b i r))) → ∃ h2, Fr (fun a => a = X + 41) h h2 ∧ (∀ i r, i < nSt v → r < 8 → m_i h2 (X + 41) (8 * i + r) = nI (en (coV v b i r))) ∧ ∀ K, lq1 (F_X7_leastBy_9 G (X + 39) c (nI b) (tollV v (nI b)) K) n (nI k) h' = K h2
  | 0, k, n + 1, h', e, _, hF, h1 => by
    have h8 := nSt_8 hS
    have hG' := hG.fr hF
    refine ⟨h', hF, fun i r hi => h1 i r (by omega), fun K => ?_⟩
    show F_X7_leastBy_9 G (X + 39) c (nI b) (tollV v (nI b)) K _ _ _ = _
    rw [F_X7_leastBy_9, u_ck hG'.1, (hF.2.2.2 (X + 39) (by omega)).1, hT.1, if_pos (nI_le (by omega) (by omega))]
  | d + 1, k, n + 1, h', e, hn, hF, h1 => by
    have h8 := nSt_8 hS
    have hG' := hG.fr hF
    have hC' : Cab h' c t v := hC.fr (st_N8 hS) hF (fun a ha => by omega)
    have hT' : Gat X h' v := ⟨by rw [(hF.2.2.2 (X + 39) (by omega)).1]; exact hT.1, fun k hk => by rw [(hF.2.2.2 (X + 40) (by omega)).1]; exact hT.2 k hk⟩
    obtain ⟨h3, a1, a2, a3, a4⟩ := une_in (G := G) hC' hS hX hG' hT' hb (k := k) (by omega) 8 0 bN h' rfl (bN_gt (by decide)) Fr.rf (fun r hr => by omega) (fun _ _ => rfl)
    obtain ⟨h4, b1, b2, b3⟩ := une_loop hC hS hX hG hT hb d (k + 1) n h3 (by omega) (by omega) (hF.tr a1) (fun i r hi hr => by
      by_cases z : i = k
      · subst z; exact a2 r hr
      · rw [a3 _ (by omega)]; exact h1 i r (by omega) hr)
    refine ⟨h4, b1, b2, fun K => ?_⟩
    show F_X7_leastBy_9 G (X + 39) c (nI b) (tollV v (nI b)) K _ _ _ = _
    rw [F_X7_leastBy_9, u_ck hG'.1, (hF.2.2.2 (X + 39) (by omega)).1, hT.1, if_neg (nI_ge (by omega) (by omega))]
    refine (a4 _).trans ?_
    rw [u_nn, nI_1]; exact b3 K
/-- the least for each row of seats taken -/
def WV (v : VV) (b S : Nat) : Option Nat := Wt (occ v) (coV v b) (nSt v) S
theorem WV_small (hS : St v) (b S : Nat) : small (WV v b S) 80000 := Wt_small (coV_small v b) (nSt_8 hS) S
theorem through_c (hG : GT h X) (hS : St v) {b k s S : Nat} (hk : k < nSt v) (hs : s < 8) (hS8 : S < 256) (hu : ∀ i r, i < nSt v → r < 8 → m_i h (X + 41) (8 * i + r) = nI (en (coV v b i r))) (hl : m_i h (X + 42) (S ||| 2 ^ s) = nI (en (WV v b (S ||| 2 ^ s)))) : f_X7_leastThrough G (X + 39) (nI k) (nI s) (nI S) h = some (nI (en (coV v b k s) + en (WV v b (S ||| 2 ^ s))), h) := by
  have h8 := nSt_8 hS
  have ho := or_lt hS8 hs
  unfold f_X7_leastThrough
  rw [u_ck hG.1, hG.2.2.1, u_ob, i8, u_ck (ixb_e (n := 64) hG.2.2.2.2.2.2.1 (by omega) (by decide)), hG.2.2.2.1, u_ob, or_e hs, u_ck (ixb_e (n := 256) hG.2.2.2.2.2.2.2.1 ho (by decide)), nI_clamp (by omega), nI_clamp (by omega), hu k s hk hs, hl, nI_add]
theorem small_mono {o : Option Nat} {A B : Nat} (h : small o A) (hab : A ≤ B) : small o B := fun m hm => Nat.le_trans (h m hm) hab
theorem after_c (hG : GT h X) (hT : Gat X h v) (hS : St v) {b S B : Nat} (hB : B < 256) (hBo : ∀ s, s < 8 → B.testBit s = occ v s) (hS8 : S < 256) (hu : ∀ i r, i < nSt v → r < 8 → m_i h (X + 41) (8 * i + r) = nI (en (coV v b i r))) (hl : ∀ s, s < 8 → B.testBit s = true → S.testBit s = false → m_i h (X + 42) (S ||| 2 ^ s) = nI (en (WV v b (S ||| 2 ^ s)))) : f_X7_leastAfter G (X + 39) (nI S) (nI B) h = some (nI (en (WV v b S)), h) := by
  have h8 := nSt_8 hS
  have hp8 : pc S ≤ 8 := rowC_le _ _
  unfold f_X7_leastAfter
  rw [c_bitCount, u_cb, bc_pc hS8, u_ck hG.1, hT.1]
  by_cases z : pc S < nSt v
  · rw [if_pos (nI_lt z (by omega))]
    have key : ∀ (d s n : Nat) (a : Option Nat), s + d = 8 → d < n → small a 100000 → lq2 (F_X7_leastAfter_22 G (X + 39) (nI S) (nI B) (nI (pc S))) n (nI (en a)) (nI s) h = some (nI (en (fs (fun s a => if occ v s && !S.testBit s then stp a (coV v b (pc S) s) (WV v b (S ||| 2 ^ s)) else a) d s a)), h) := by
      intro d
      induction d with
      | zero =>
        intro s n a e hn ha
        obtain ⟨n, rfl⟩ : ∃ m, n = m + 1 := ⟨n - 1, by omega⟩
        show F_X7_leastAfter_22 G (X + 39) (nI S) (nI B) (nI (pc S)) _ _ _ _ = _
        rw [F_X7_leastAfter_22, if_pos (show (8 : Int32) ≤ nI s from nI_le (a := 8) (by omega) (by omega))]; rfl
      | succ d ih =>
        intro s n a e hn ha
        obtain ⟨n, rfl⟩ : ∃ m, n = m + 1 := ⟨n - 1, by omega⟩
        show F_X7_leastAfter_22 G (X + 39) (nI S) (nI B) (nI (pc S)) _ _ _ _ = some (nI (en (fs _ d (s + 1) (if occ v s && !S.testBit s then stp a (coV v b (pc S) s) (WV v b (S ||| 2 ^ s)) else a))), h)
        rw [F_X7_leastAfter_22, if_neg (show ¬ (8 : Int32) ≤ nI s from nI_ge (b := 8) (by omega) (by omega)), c_isFree hB (by omega), u_cb, u_nn, hBo s (by omega)]
        by_cases y : (occ v s && !S.testBit s) = true
        · have y' := y
          simp only [Bool.and_eq_true, Bool.not_eq_true'] at y'
          have hw := WV_small hS b (S ||| 2 ^ s)
          have hc := coV_small v b (pc S) s
          have b1 := en_lt hw (by decide)
          have b2 := en_lt hc (by decide)
          have b3 := en_lt ha (by decide)
          have em : (if nI (en (coV v b (pc S) s) + en (WV v b (S ||| 2 ^ s))) < nI (en a) then nI (en (coV v b (pc S) s) + en (WV v b (S ||| 2 ^ s))) else nI (en a)) = nI (en (stp a (coV v b (pc S) s) (WV v b (S ||| 2 ^ s)))) := by
            rw [← en_stp ha hc hw]
            by_cases g : en (coV v b (pc S) s) + en (WV v b (S ||| 2 ^ s)) < en a
            · rw [if_pos g, if_pos (nI_lt g (by omega))]
            · rw [if_neg g, if_neg (nI_nlt (by omega) (by omega))]
          rw [if_pos y, if_pos y, if_neg n10, u_ck hG.1, through_c hG hS z (by omega) hS8 hu (hl s (by omega) (by rw [hBo s (by omega)]; exact y'.1) y'.2), u_cb, u_nn, em]
          dsimp only
          rw [u_nn, nI_1]
          exact ih (s + 1) n _ (by omega) (by omega) (stp_small ha hc hw (by decide))
        · rw [if_neg y, if_neg y, if_pos rfl]
          dsimp only
          rw [u_nn, nI_1]
          exact ih (s + 1) n a (by omega) (by omega) ha
    have k0 := key 8 0 bN none rfl (bN_gt (by decide)) (fun m hm => by cases hm)
    have ew : WV v b S = _ := Wt_step z
    rw [ew]
    exact k0
  · rw [if_neg (nI_nlt (by omega) (by omega))]
    have ew : WV v b S = some 0 := Wt_full (by omega)
    rw [ew]; rfl
theorem least_loop (hG : GT h X) (hT : Gat X h v) (hS : St v) {b B : Nat} (hB : B < 256) (hBo : ∀ s, s < 8 → B.testBit s = occ v s) (hu : ∀ i r, i < nSt v → r < 8 → m_i h (X + 41) (8 * i + r) = nI (en (coV v b i r))) : ∀ (k n : Nat) (h' : AH), k ≤ B + 1 → k < n → Fr (fun a => a = X + 42) h h' → (∀ S, k ≤ S → S ≤ B → Sub S B → m_i h' (X + 42) S = nI (en (WV v b S))) → ∃ h2, Fr (fun a => a = X + 42) h h2 ∧ (∀ S, S ≤ B → Sub S B → m_i h2 (X + 42) S = nI (en (WV v b S))) ∧ ∀ K, lq1 (F_X7_leastBy_104 G (X + 39) (nI B) K) n (nI k - 1) h' = K h2
  | 0, n + 1, h', _, _, hF, h1 => by
    refine ⟨h', hF, fun S => h1 S (Nat.zero_le _), fun K => ?_⟩
    show F_X7_leastBy_104 G (X + 39) (nI B) K _ _ _ = _
    rw [F_X7_leastBy_104, if_pos (by decide)]
  | k + 1, n + 1, h', hk, hn, hF, h1 => by
    have e1 : nI (k + 1) - 1 = nI k := nI_pred k
    have e2 : nI k + -1 = nI k - 1 := by rw [Int32.sub_eq_add_neg]
    have hG' := hG.fr hF
    have hT' : Gat X h' v := ⟨by rw [(hF.2.2.2 (X + 39) (by omega)).1]; exact hT.1, fun k hk => by rw [(hF.2.2.2 (X + 40) (by omega)).1]; exact hT.2 k hk⟩
    have et : nI k &&& (nI B ^^^ (-1 : Int32)) = nI (k &&& (B ^^^ 4294967295)) := by rw [m1_n, u_xor, u_and]
    have hal : k &&& (B ^^^ 4294967295) ≤ k := Nat.and_le_left
    by_cases z : Sub k B
    · have af := after_c (G := G) (b := b) hG' hT' hS hB hBo (show k < 256 by omega) (fun i r hi hr => by rw [(hF.2.2.2 (X + 41) (by omega)).1]; exact hu i r hi hr) (fun s hs hb1 hb2 => h1 _ (or_up hb2) (Sub_le (or_lt (by omega) hs) hB (Sub_or (by omega) hs z hb1)) (Sub_or (by omega) hs z hb1))
      obtain ⟨h2, a1, a2, a3⟩ := least_loop hG hT hS hB hBo hu k n (m_si h' (X + 42) k (nI (en (WV v b k)))) (by omega) (by omega) (hF.tr Fr.s1) (fun S q1 q2 q3 => by
        by_cases y : S = k
        · subst y; rw [m_i_ss]
        · rw [m_i_sj y]; exact h1 S (by omega) q2 q3)
      refine ⟨h2, a1, a2, fun K => ?_⟩
      show F_X7_leastBy_104 G (X + 39) (nI B) K _ _ _ = _
      rw [F_X7_leastBy_104, e1, if_neg (nI_pos (by omega)), u_nn, et, show k &&& (B ^^^ 4294967295) = 0 from z, if_pos (by decide), u_ck hG'.1, hG'.2.2.2.1, u_ob, af, u_cb, u_ck (ixb_e (n := 256) hG'.2.2.2.2.2.2.2.1 (by omega) (by decide)), u_nn, nI_clamp (by omega)]
      dsimp only
      rw [u_nn, e2]; exact a3 K
    · obtain ⟨h2, a1, a2, a3⟩ := least_loop hG hT hS hB hBo hu k n h' (by omega) (by omega) hF (fun S q1 q2 q3 => by
        by_cases y : S = k
        · subst y; exact absurd q3 z
        · exact h1 S (by omega) q2 q3)
      refine ⟨h2, a1, a2, fun K => ?_⟩
      show F_X7_leastBy_104 G (X + 39) (nI B) K _ _ _ = _
      rw [F_X7_leastBy_104, e1, if_neg (nI_pos (by omega)), u_nn, et, if_neg (nI_ne0 (Nat.pos_of_ne_zero z) (by omega))]
      dsimp only
      rw [u_nn, e2]; exact a3 K
/-- what the class holds once a hole's least is found -/
def Lea (X : Nat) (h : AH) (v : VV) (b B : Nat) : Prop := (∀ i r, i < nSt v → r < 8 → m_i h (X + 41) (8 * i + r) = nI (en (coV v b i r))) ∧ ∀ S, S ≤ B → Sub S B → m_i h (X + 42) S = nI (en (WV v b S))
theorem c_leastBy (hC : Cab h c t v) (hS : St v) (hX : X + 58 ≤ c ∧ X + 58 ≤ t) (hG : GT h X) (hT : Gat X h v) {b B : Nat} (hb : b < 6) (hB : B < 256) (hBs : seatV v = nI B) (hBo : ∀ s, s < 8 → B.testBit s = occ v s) : ∃ h2, Fr (fun a => a = X + 41 ∨ a = X + 42) h h2 ∧ Lea X h2 v b B ∧ f_X7_leastBy G (X + 39) c (nI b) h = some (nI (en (WV v b 0)), h2) := by
  obtain ⟨ha, a1, a2, a3⟩ := une_loop (G := G) hC hS hX hG hT hb (nSt v) 0 bN h (Nat.zero_add _) (bN_gt (by have := nSt_8 hS; omega)) Fr.rf (fun i r hi => by omega)
  have hCa : Cab ha c t v := hC.fr (st_N8 hS) a1 (fun a ha => by omega)
  have hGa := hG.fr a1
  have hTa : Gat X ha v := ⟨by rw [(a1.2.2.2 (X + 39) (by omega)).1]; exact hT.1, fun k hk => by rw [(a1.2.2.2 (X + 40) (by omega)).1]; exact hT.2 k hk⟩
  obtain ⟨hb', b1, b2, b3⟩ := least_loop (G := G) hGa hTa hS hB hBo a2 (B + 1) bN ha (Nat.le_refl _) (bN_gt (by omega)) Fr.rf (fun S q1 q2 => by omega)
  have hGb := hGa.fr b1
  refine ⟨hb', (a1.wk (fun a ha => Or.inl ha)).tr (b1.wk (fun a ha => Or.inr ha)), ⟨fun i r hi hr => by rw [(b1.2.2.2 (X + 41) (by omega)).1]; exact a2 i r hi hr, b2⟩, ?_⟩
  unfold f_X7_leastBy
  rw [u_ck (cab_t hC), c_tollFor hC hS, u_cb]
  refine (a3 _).trans ?_
  rw [u_ck (cab_t hCa), c_seatBits hCa hS, u_cb, hBs]
  have b3' := b3 (fun (h_140 : AH) => (ck (m_t h_140 (X + 39) = .inl 7) <| ob (m_r h_140 (X + 39) 3) fun b48 => ck (ixb h_140 b48 .int (0 : Int32) = true) <| some (m_i h_140 b48 (0 : Int32).toNatClampNeg, h_140)))
  rw [nI_pred] at b3'
  refine b3'.trans ?_
  have z0 : Sub 0 B := Nat.zero_and _
  have x0 : ixb hb' (X + 42) .int (0 : Int32) = true := ixb_e (q := 0) (n := 256) hGb.2.2.2.2.2.2.2.1 (by omega) (by decide)
  rw [u_ck hGb.1, hGb.2.2.2.1, u_ob, u_ck x0, tn_0, b2 0 (Nat.zero_le _) z0]
end
