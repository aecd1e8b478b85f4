/-! PURE 98y: who sits where: the way of the least; the class settles. -/
section
variable {G : GG} {own : Nat → Nat} {R X c t U : Nat} {h h1 h2 h' : AH} {w w' w1 w2 w3 x x1 x2 x' : MS} {v v' : VV}
/-- the first best seat -/
def bsP (v : VV) (b S s : Nat) : Bool := (occ v s && !S.testBit s) && decide (stp none (coV v b (pc S) s) (WV v b (S ||| 2 ^ s)) = WV v b S)
def bsV (v : VV) (b S : Nat) : Nat := (ff (bsP v b S) 8 0).getD 0
def psV (v : VV) (b : Nat) : Nat → Nat
  | 0 => 0
  | k + 1 => psV v b k ||| 2 ^ bsV v b (psV v b k)
theorem bs_ok (hS : St v) {b S m : Nat} (hp : pc S < nSt v) (hw : WV v b S = some m) : ∃ s, ff (bsP v b S) 8 0 = some s ∧ bsV v b S = s ∧ s < 8 ∧ occ v s = true ∧ S.testBit s = false ∧ stp none (coV v b (pc S) s) (WV v b (S ||| 2 ^ s)) = some m ∧ (∃ m', WV v b (S ||| 2 ^ s) = some m') ∧ ∀ r, r < s → bsP v b S r = false := by
  have e : WV v b S = _ := Wt_step hp
  rw [e] at hw
  obtain ⟨s, h1, h2, a, d, h3, h4, h5⟩ := fs_met (g := fun s => occ v s && !S.testBit s) (c := fun s => coV v b (pc S) s) (r := fun s => WV v b (S ||| 2 ^ s)) hw
  rw [← e] at hw
  have hps : bsP v b S s = true := by
    unfold bsP
    rw [show (occ v s && !S.testBit s) = true from h2, Bool.true_and]
    refine decide_eq_true ?_
    rw [hw, show coV v b (pc S) s = some a from h3, show WV v b (S ||| 2 ^ s) = some d from h4]
    exact congrArg some h5
  cases hff : ff (bsP v b S) 8 0 with
  | none => have := ff_none hff s (Nat.zero_le _) (by omega); rw [hps] at this; cases this
  | some s' =>
    obtain ⟨-, q1, q2, q3⟩ := ff_some hff
    have q2' := q2
    unfold bsP at q2'
    simp only [Bool.and_eq_true, Bool.not_eq_true', decide_eq_true_eq] at q2'
    refine ⟨s', rfl, by unfold bsV; rw [hff]; rfl, by omega, q2'.1.1, q2'.1.2, by rw [q2'.2, hw], ?_, fun r hr => q3 r (Nat.zero_le _) hr⟩
    have := q2'.2
    rw [hw] at this
    rcases stp_ge this with z | ⟨a', d', -, z2, -⟩
    · cases z
    · exact ⟨d', z2⟩
/-- along the way -/
theorem ps_ok (hS : St v) {b m : Nat} (h0 : WV v b 0 = some m) : ∀ k, k ≤ nSt v → psV v b k < 256 ∧ pc (psV v b k) = k ∧ (∃ m', WV v b (psV v b k) = some m') ∧ ∀ s, s < 8 → (psV v b k).testBit s = true → occ v s = true
  | 0, _ => ⟨show (0 : Nat) < 256 by decide, (rowC_0 _ 8).mpr (fun q _ => Nat.zero_testBit q), ⟨m, h0⟩, fun s _ h => by rw [show psV v b 0 = 0 from rfl, Nat.zero_testBit] at h; cases h⟩
  | k + 1, hk => by
    obtain ⟨i1, i2, ⟨m', i3⟩, i4⟩ := ps_ok hS h0 k (by omega)
    obtain ⟨s, -, b2, b3, b4, b5, -, b7, -⟩ := bs_ok hS (b := b) (S := psV v b k) (by omega) i3
    have e : psV v b (k + 1) = psV v b k ||| 2 ^ s := by rw [← b2]; rfl
    rw [e]
    refine ⟨or_lt i1 b3, by rw [pc_up b3 b5, i2], b7, fun r hr hr2 => ?_⟩
    rw [Nat.testBit_or, Nat.testBit_two_pow] at hr2
    by_cases z : s = r
    · subst z; exact b4
    · rw [decide_eq_false z, Bool.or_false] at hr2; exact i4 r hr hr2
theorem ps_sub (hS : St v) {b m B : Nat} (h0 : WV v b 0 = some m) (hBo : ∀ s, s < 8 → B.testBit s = occ v s) {k : Nat} (hk : k ≤ nSt v) : Sub (psV v b k) B := by
  obtain ⟨i1, -, -, i4⟩ := ps_ok hS h0 k hk
  rw [Sub_iff i1]
  intro s hs h
  rw [hBo s hs]; exact i4 s hs h
theorem c_firstBest (hG : GT h X) (hS : St v) {b k m B : Nat} (hB : B < 256) (hBo : ∀ s, s < 8 → B.testBit s = occ v s) (hL : Lea X h v b B) (h0 : WV v b 0 = some m) (hk : k < nSt v) : f_X7_firstBest G (X + 39) (nI k) (nI (psV v b k)) (nI B) h = some (nI (bsV v b (psV v b k)), h) := by
  obtain ⟨i1, i2, ⟨m', i3⟩, i4⟩ := ps_ok hS h0 k (by omega)
  have hsub := ps_sub hS h0 hBo (Nat.le_of_lt hk)
  have hm' := WV_small hS b _ m' i3
  obtain ⟨s, b1, b2, b3, b4, b5, b6, -, -⟩ := bs_ok hS (b := b) (S := psV v b k) (by omega) i3
  generalize hSe : psV v b k = S at *
  have hle := Sub_le i1 hB hsub
  have eS : m_i h (X + 42) S = nI m' := by rw [hL.2 S hle hsub, i3]; rfl
  have thr : ∀ r, r < 8 → occ v r = true → S.testBit r = false → f_X7_leastThrough G (X + 39) (nI k) (nI r) (nI S) h = some (nI (en (coV v b (pc S) r) + en (WV v b (S ||| 2 ^ r))), h) := fun r hr h1 h2 => by
    have hs2 := Sub_or i1 hr hsub (by rw [hBo r hr]; exact h1)
    rw [i2]
    exact through_c hG hS hk hr i1 hL.1 (hL.2 _ (Sub_le (or_lt i1 hr) hB hs2) hs2)
  unfold f_X7_firstBest
  refine (lq1_ff (N := 8) (bsP v b S) (fun q => some (nI q, h)) (some (0, h)) ?_ ?_ ?_ (d := 8) (k := 0) rfl (bN_gt (by decide))).trans ?_
  · intro self
    rw [F_X7_firstBest_3, if_pos (show (8 : Int32) ≤ nI 8 from nI_le (a := 8) (by omega) (by omega))]
  · intro self r hr hp
    unfold bsP at hp
    simp only [Bool.and_eq_true, Bool.not_eq_true', decide_eq_true_eq] at hp
    have hpe : (occ v r && !S.testBit r) = true := by rw [hp.1.1, hp.1.2]; rfl
    have es := (en_met (m := m') (by omega)).mpr (by rw [hp.2, i3])
    rw [F_X7_firstBest_3, if_neg (show ¬ (8 : Int32) ≤ nI r from nI_ge (b := 8) (by omega) (by omega)), c_isFree hB hr, u_cb, u_nn, hBo r hr, if_pos hpe, if_neg n10, u_ck hG.1, thr r hr hp.1.1 hp.1.2, u_cb, u_ck hG.1, hG.2.2.2.1, u_ob, u_ck (ixb_e (n := 256) hG.2.2.2.2.2.2.2.1 i1 (by decide)), nI_clamp (by omega), eS, es, if_pos rfl]
  · intro self r hr hp
    by_cases hpe : (occ v r && !S.testBit r) = true
    · have hpe' := hpe
      simp only [Bool.and_eq_true, Bool.not_eq_true'] at hpe'
      have hne : ¬ en (coV v b (pc S) r) + en (WV v b (S ||| 2 ^ r)) = m' := fun e => by
        unfold bsP at hp
        rw [hpe, Bool.true_and, decide_eq_false_iff_not] at hp
        exact hp (by rw [i3]; exact (en_met (by omega)).mp e)
      have w1 := en_lt (coV_small v b (pc S) r) (by decide)
      have w2 := en_lt (WV_small hS b (S ||| 2 ^ r)) (by decide)
      rw [F_X7_firstBest_3, if_neg (show ¬ (8 : Int32) ≤ nI r from nI_ge (b := 8) (by omega) (by omega)), c_isFree hB hr, u_cb, u_nn, hBo r hr, if_pos hpe, if_neg n10, u_ck hG.1, thr r hr hpe'.1 hpe'.2, u_cb, u_ck hG.1, hG.2.2.2.1, u_ob, u_ck (ixb_e (n := 256) hG.2.2.2.2.2.2.2.1 i1 (by decide)), nI_clamp (by omega), eS, if_neg (fun q => hne ((nI_eq (by omega) (by omega)).mp q))]
      dsimp only; rw [u_nn]
    · rw [F_X7_firstBest_3, if_neg (show ¬ (8 : Int32) ≤ nI r from nI_ge (b := 8) (by omega) (by omega)), c_isFree hB hr, u_cb, u_nn, hBo r hr, if_neg hpe, if_pos rfl]
      dsimp only; rw [u_nn]
  · rw [b1, b2]
/-- the places as the class tells them -/
def Plc (X : Nat) (h : AH) (v : VV) (b : Nat) : Prop := ∀ q, q < 8 → m_i h (X + 43) q = if q < sN v ∧ sit1 v q = true then nI (bsV v b (psV v b (rowC (sit1 v) q))) else -1
theorem choose_loop (hG : GT h X) (hT : Gat X h v) (hS : St v) {b m B : Nat} (hB : B < 256) (hBo : ∀ s, s < 8 → B.testBit s = occ v s) (hL : Lea X h v b B) (h0 : WV v b 0 = some m) : ∀ (d k n : Nat) (h' : AH), k + d = nSt v → d < n → Fr (fun a => a = X + 43) h h' → (∀ q, q < 8 → m_i h' (X + 43) q = if (q < sN v ∧ sit1 v q = true) ∧ rowC (sit1 v) q < k then nI (bsV v b (psV v b (rowC (sit1 v) q))) else -1) → ∃ h2, Fr (fun a => a = X + 43) h h2 ∧ Plc X h2 v b ∧ lq2 (F_X7_choosePlaces_12 G (X + 39) (nI B)) n (nI (psV v b k)) (nI k) h' = some h2
  | 0, k, n + 1, h', e, _, hF, h1 => by
    have h8 := nSt_8 hS
    have hG' := hG.fr hF
    refine ⟨h', hF, fun q hq => ?_, ?_⟩
    · rw [h1 q hq]
      by_cases z : q < sN v ∧ sit1 v q = true
      · rw [if_pos z, if_pos ⟨z, by have := rowC_lt (sit1 v) z.1 z.2; unfold nSt at e; omega⟩]
      · rw [if_neg z, if_neg (fun y => z y.1)]
    · show F_X7_choosePlaces_12 G (X + 39) (nI B) _ _ _ _ = _
      rw [F_X7_choosePlaces_12, u_ck hG'.1, (hF.2.2.2 (X + 39) (by omega)).1, hT.1, if_pos (nI_le (by omega) (by omega))]
  | d + 1, k, n + 1, h', e, hn, hF, h1 => by
    have h8 := nSt_8 hS
    have hG' := hG.fr hF
    have hL' : Lea X h' v b B := ⟨fun i r hi hr => by rw [(hF.2.2.2 (X + 41) (by omega)).1]; exact hL.1 i r hi hr, fun S q1 q2 => by rw [(hF.2.2.2 (X + 42) (by omega)).1]; exact hL.2 S q1 q2⟩
    have hq := sq_ok (v := v) (k := k) (by omega)
    have hN8 := st_N8 hS
    obtain ⟨i1, i2, ⟨m', i3⟩, i4⟩ := ps_ok hS h0 k (by omega)
    obtain ⟨s, -, b2, b3, -⟩ := bs_ok hS (b := b) (S := psV v b k) (by omega) i3
    have fb := c_firstBest (G := G) hG' hS hB hBo hL' h0 (k := k) (by omega)
    obtain ⟨h2, a1, a2, a3⟩ := choose_loop hG hT hS hB hBo hL h0 d (k + 1) n (m_si h' (X + 43) (sq v k) (nI (bsV v b (psV v b k)))) (by omega) (by omega) (hF.tr Fr.s1) (fun q hq8 => by
      by_cases z : q = sq v k
      · subst z
        rw [m_i_ss, if_pos ⟨⟨hq.1, hq.2.1⟩, by omega⟩, hq.2.2]
      · rw [m_i_sj z, h1 q hq8]
        by_cases y : q < sN v ∧ sit1 v q = true
        · have hne : rowC (sit1 v) q ≠ k := fun e => z (by have := enu_at (sit1 v) y.1 y.2; rw [e] at this; exact this.symm)
          by_cases u : rowC (sit1 v) q < k
          · rw [if_pos ⟨y, u⟩, if_pos ⟨y, by omega⟩]
          · rw [if_neg (fun g => u g.2), if_neg (fun g => by have := g.2; omega)]
        · rw [if_neg (fun g => y g.1), if_neg (fun g => y g.1)])
    refine ⟨h2, a1, a2, ?_⟩
    show F_X7_choosePlaces_12 G (X + 39) (nI B) _ _ _ _ = _
    have e40 : m_i h' (X + 40) k = nI (sq v k) := by rw [(hF.2.2.2 (X + 40) (by omega)).1]; exact hT.2 k (by omega)
    have eo : nI (psV v b k) ||| ((1 : Int32) <<< (nI (bsV v b (psV v b k)) &&& 31)) = nI (psV v b (k + 1)) := by
      rw [b2, or_e b3, ← b2]; rfl
    rw [F_X7_choosePlaces_12, u_ck hG'.1, (hF.2.2.2 (X + 39) (by omega)).1, hT.1, if_neg (nI_ge (by omega) (by omega)), fb, u_cb, u_ck hG'.1, hG'.2.2.2.2.1, u_ob, hG'.2.1, u_ob, u_ck (ixb_e (n := 8) hG'.2.2.2.2.2.1 (by omega) (by decide)), nI_clamp (show k < 2 ^ 31 by omega), e40, u_ck (ixb_e (n := 8) hG'.2.2.2.2.2.2.2.2 (by omega) (by decide)), u_nn, nI_clamp (show sq v k < 2 ^ 31 by omega), u_nn, eo, u_nn, nI_1]
    exact a3
theorem c_choose (hG : GT h X) (hT : Gat X h v) (hS : St v) {b m B : Nat} (hB : B < 256) (hBo : ∀ s, s < 8 → B.testBit s = occ v s) (hL : Lea X h v b B) (h0 : WV v b 0 = some m) : ∃ h2, Fr (fun a => a = X + 43) h h2 ∧ Plc X h2 v b ∧ f_X7_choosePlaces G (X + 39) (nI B) h = some h2 := by
  obtain ⟨h1, a1, a2, a3⟩ := c_fill G (a := X + 43) (N := 8) (x := -1) (h := h) (by decide) hG.2.2.2.2.2.2.2.2
  have hG1 := hG.fr a2
  have hT1 : Gat X h1 v := ⟨by rw [(a2.2.2.2 (X + 39) (by omega)).1]; exact hT.1, fun k hk => by rw [(a2.2.2.2 (X + 40) (by omega)).1]; exact hT.2 k hk⟩
  have hL1 : Lea X h1 v b B := ⟨fun i r hi hr => by rw [(a2.2.2.2 (X + 41) (by omega)).1]; exact hL.1 i r hi hr, fun S q1 q2 => by rw [(a2.2.2.2 (X + 42) (by omega)).1]; exact hL.2 S q1 q2⟩
  obtain ⟨h2, b1, b2, b3⟩ := choose_loop (G := G) hG1 hT1 hS hB hBo hL1 h0 (nSt v) 0 bN h1 (Nat.zero_add _) (bN_gt (by have := nSt_8 hS; omega)) Fr.rf (fun q hq => by rw [a3, if_pos hq, if_neg (fun g => by have := g.2; omega)])
  refine ⟨h2, a2.tr b1, b2, ?_⟩
  unfold f_X7_choosePlaces
  rw [u_ck hG.1, hG.2.2.2.2.1, u_ob, a1, u_ob]
  exact b3
/-- the best of the holes so far: none, or with the least there and the places -/
def Best (v : VV) (o : Option (Nat × Nat)) : Prop := ∀ b m, o = some (b, m) → b < 6 ∧ WV v b 0 = some m
def nxt (v : VV) (o : Option (Nat × Nat)) (b : Nat) : Option (Nat × Nat) := match WV v b 0 with
  | none => o
  | some m => (match o with | none => some (b, m) | some p => if m < p.2 then some (b, m) else o)
def SSe (X a : Nat) : Prop := X + 39 ≤ a ∧ a < X + 44
/-- the class's cells: what was found -/
def SeC (X : Nat) (h : AH) (v : VV) (o : Option (Nat × Nat)) : Prop := Gat X h v ∧ match o with
  | none => m_i h (X + 39) 6 = nI 268435456
  | some p => m_i h (X + 39) 6 = nI p.2 ∧ m_i h (X + 39) 5 = nI p.1 ∧ Plc X h v p.1
theorem settle_one (hC : Cab h c t v) (hS : St v) (hX : X + 58 ≤ c ∧ X + 58 ≤ t) (hG : GT h X) {b B : Nat} (hb : b < 6) (hB : B < 256) (hBs : seatV v = nI B) (hBo : ∀ s, s < 8 → B.testBit s = occ v s) {o : Option (Nat × Nat)} (hO : Best v o) (hE : SeC X h v o) : ∃ h2, Fr (SSe X) h h2 ∧ SeC X h2 v (nxt v o b) ∧ ∀ L K self, nI b ≤ L → F_X7_settle_41 G (X + 39) c L K self (nI b) h = self (nI (b + 1)) h2 := by
  obtain ⟨ha, a1, a2, a3⟩ := c_leastBy (G := G) hC hS hX hG hE.1 hb hB hBs hBo
  have hGa := hG.fr a1
  have hCa : Cab ha c t v := hC.fr (st_N8 hS) a1 (fun a ha => by omega)
  have e39 : m_i ha (X + 39) = m_i h (X + 39) := (a1.2.2.2 (X + 39) (by omega)).1
  have e43 : m_i ha (X + 43) = m_i h (X + 43) := (a1.2.2.2 (X + 43) (by omega)).1
  have hTa : Gat X ha v := ⟨by rw [e39]; exact hE.1.1, fun k hk => by rw [(a1.2.2.2 (X + 40) (by omega)).1]; exact hE.1.2 k hk⟩
  have hsm := WV_small hS b 0
  have hlt := en_lt hsm (by decide)
  -- what stands at field 6
  have e6 : ∃ g : Nat, g ≤ 268435456 ∧ m_i h (X + 39) 6 = nI g ∧ (o = none ∧ g = 268435456 ∨ ∃ p, o = some p ∧ g = p.2 ∧ g ≤ 80000) := by
    cases o with
    | none => exact ⟨268435456, Nat.le_refl _, hE.2, Or.inl ⟨rfl, rfl⟩⟩
    | some p =>
      have := hO p.1 p.2 rfl
      have h8 := WV_small hS p.1 0 p.2 this.2
      exact ⟨p.2, by omega, hE.2.1, Or.inr ⟨p, rfl, rfl, h8⟩⟩
  obtain ⟨g, hg, eg, hgo⟩ := e6
  have pre : ∀ L K self, nI b ≤ L → F_X7_settle_41 G (X + 39) c L K self (nI b) h = (nn (fun (h_86 : AH) => (nn (nI b + (1 : Int32)) fun x12 => self x12 h_86)) fun j_86 => if nI g ≤ nI (en (WV v b 0)) then (j_86 ha) else nn (m_si ha (X + 39) 6 (nI (en (WV v b 0)))) fun h14 => nn (m_si h14 (X + 39) 5 (nI b)) fun h15 => ck (m_t h15 c = .inl 0) <| cb (f_X0_seatBits G c h15) fun r19 h17 => ck (m_t h17 (X + 39) = .inl 7) <| ob (f_X7_choosePlaces G (X + 39) r19 h17) fun h21 => j_86 h21) := fun L K self hL => by
    rw [F_X7_settle_41, if_neg (by rw [I_lt]; rw [I_le] at hL; omega), u_ck hG.1, a3, u_cb, u_ck hGa.1, e39, eg]
  by_cases z : g ≤ en (WV v b 0)
  · refine ⟨ha, a1.wk (fun a ha => by unfold SSe; omega), ⟨hTa, ?_⟩, fun L K self hL => ?_⟩
    · have en' : nxt v o b = o := by
        unfold nxt
        cases hw : WV v b 0 with
        | none => rfl
        | some m =>
          rw [hw] at z
          have z' : g ≤ m := z
          have := hsm m hw
          rcases hgo with ⟨q1, q2⟩ | ⟨p, q1, q2, q3⟩
          · omega
          · rw [q1]; show (if m < p.2 then some (b, m) else some p) = some p
            rw [if_neg (by omega)]
      rw [en']
      have := hE.2
      cases o with
      | none => show m_i ha (X + 39) 6 = _; rw [e39]; exact this
      | some p => exact ⟨by rw [e39]; exact this.1, by rw [e39]; exact this.2.1, fun q hq => by rw [e43]; exact this.2.2 q hq⟩
    · rw [pre L K self hL, u_nn, if_pos (nI_le z (by omega))]
      dsimp only; rw [u_nn, nI_1]
  · obtain ⟨m, hw⟩ : ∃ m, WV v b 0 = some m := by
      cases hw : WV v b 0 with
      | none => rw [hw] at z; exact absurd hg z
      | some m => exact ⟨m, rfl⟩
    have ew : en (WV v b 0) = m := by rw [hw]; rfl
    have hF5 : Fr (fun a => a = X + 39) ha (m_si (m_si ha (X + 39) 6 (nI (en (WV v b 0)))) (X + 39) 5 (nI b)) := Fr.s1.tr Fr.s1
    have hG5 := hGa.fr hF5
    have hC5 : Cab (m_si (m_si ha (X + 39) 6 (nI (en (WV v b 0)))) (X + 39) 5 (nI b)) c t v := hCa.fr (st_N8 hS) hF5 (fun a ha => by omega)
    have hT5 : Gat X (m_si (m_si ha (X + 39) 6 (nI (en (WV v b 0)))) (X + 39) 5 (nI b)) v := ⟨by rw [m_i_sj (by decide), m_i_sj (by decide)]; exact hTa.1, fun k hk => by rw [m_i_sb (by omega), m_i_sb (by omega)]; exact hTa.2 k hk⟩
    have hL5 : Lea X (m_si (m_si ha (X + 39) 6 (nI (en (WV v b 0)))) (X + 39) 5 (nI b)) v b B := ⟨fun i r hi hr => by rw [m_i_sb (by omega), m_i_sb (by omega)]; exact a2.1 i r hi hr, fun S q1 q2 => by rw [m_i_sb (by omega), m_i_sb (by omega)]; exact a2.2 S q1 q2⟩
    obtain ⟨h6, c1, c2, c3⟩ := c_choose (G := G) hG5 hT5 hS hB hBo hL5 hw
    have e639 : m_i h6 (X + 39) = m_i (m_si (m_si ha (X + 39) 6 (nI (en (WV v b 0)))) (X + 39) 5 (nI b)) (X + 39) := (c1.2.2.2 (X + 39) (by omega)).1
    refine ⟨h6, ((a1.wk (fun a ha => by unfold SSe; omega)).tr (hF5.wk (fun a ha => by unfold SSe; omega))).tr (c1.wk (fun a ha => by unfold SSe; omega)), ⟨⟨by rw [e639]; exact hT5.1, fun k hk => by rw [(c1.2.2.2 (X + 40) (by omega)).1]; exact hT5.2 k hk⟩, ?_⟩, fun L K self hL => ?_⟩
    · have en' : nxt v o b = some (b, m) := by
        unfold nxt
        rw [hw]
        rcases hgo with ⟨q1, q2⟩ | ⟨p, q1, q2, q3⟩
        · rw [q1]
        · rw [q1]; show (if m < p.2 then some (b, m) else some p) = some (b, m)
          rw [if_pos (by omega)]
      rw [en']
      exact ⟨by rw [e639, m_i_sj (by decide), m_i_ss, ew], by rw [e639, m_i_ss], c2⟩
    · rw [pre L K self hL, u_nn, if_neg (nI_ge (by omega) (by omega)), u_nn, u_nn, u_ck (cab_t hC5), c_seatBits hC5 hS, u_cb, hBs, u_ck hG5.1, c3, u_ob]
      dsimp only; rw [u_nn, nI_1]
theorem nxt_best {o : Option (Nat × Nat)} (hO : Best v o) {b : Nat} (hb : b < 6) : Best v (nxt v o b) := by
  intro b' m' e
  unfold nxt at e
  cases hw : WV v b 0 with
  | none => rw [hw] at e; exact hO b' m' e
  | some m =>
    rw [hw] at e
    cases o with
    | none => obtain ⟨rfl, rfl⟩ := Prod.mk.inj (Option.some.inj e); exact ⟨hb, hw⟩
    | some p =>
      have e' : (if m < p.2 then some (b, m) else some p) = some (b', m') := e
      by_cases z : m < p.2
      · rw [if_pos z] at e'; obtain ⟨rfl, rfl⟩ := Prod.mk.inj (Option.some.inj e'); exact ⟨hb, hw⟩
      · rw [if_neg z] at e'; exact hO b' m' e'
end
