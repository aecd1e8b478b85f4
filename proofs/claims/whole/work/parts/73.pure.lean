/-! PURE 73: a mile, by a rule or by none; miles. -/
section
variable {G : GG} {h h0 : AH} {w w0 : MS} {c t L : Nat} {v : VV}
/-- a rule's scratch -/
def LSc (L a : Nat) : Prop := a = L ∨ a = L + 2 ∨ a = L + 3
theorem hole_both (hC : Cab h c t w.1) (hS : St w.1) (hA : Ab w.1) (hL : LaS h L) (hD : DjL L c t) {r : Nat} (hr : r < 6) (hLV : LawV h L w.1 r) (h16 : w.1 1 16 = nI r) : ∃ h2 w1 w2 x, f_X2_holeFor G L c h = some (x, h2) ∧ p_X12_asks G w = some w1 ∧ p_X12_pulled G w1 = some (x, w2) ∧ Fr (LSc L) h h2 ∧ Fw (fun k => k = 52) w w2 ∧ bd x 0 5 := by
  obtain ⟨ha, f1, f2⟩ := c_lookAround (G := G) hC hS hA hL hD
  obtain ⟨w1, g1, g2, g3⟩ := p_asks (G := G) hS
  obtain ⟨hF, l1, l2, l3, l4⟩ := f2
  let hb := m_si ha L 2 0
  have hFb : Fr (fun a => a = L ∨ a = L + 3) h hb := hF.tr (Fr.si (Or.inl rfl))
  have hCb : Cab hb c t w.1 := hC.fr (st_N8 hS) hFb (fun a ha => by unfold DjL at hD; omega)
  have hLb : LaS hb L := by unfold LaS at hL ⊢; rw [hFb.1, hFb.2.1]; exact hL
  have hVb : LV hb L w.1 := by
    refine ⟨fun j hj => ?_, ?_, ?_, ?_⟩
    · show m_i (m_si ha L 2 0) (L + 3) j = _
      rw [m_i_sb (show L + 3 ≠ L by omega), l1 j hj, WC_n]
    · show m_i (m_si ha L 2 0) L 4 = _
      rw [m_i_sj (by decide), l2, NA_n]
    · show m_i (m_si ha L 2 0) L 5 = _
      rw [m_i_sj (by decide), l3]
    · show m_i (m_si ha L 2 0) L 6 = _
      rw [m_i_sj (by decide), l4]
  obtain ⟨n, S, T, E, hn, h45, hS0, hSn, hlen, hcl⟩ := hLV
  have e17 : ∀ k, k ≠ 52 → w1.1 k = w.1 k := fun k hk => g2 k hk
  -- the clauses over the view of w1
  have hS1 : St w1.1 := hS.cg (fun r h1 h2 _ => e17 r (by omega))
  have hC1 : Cab hb c t w1.1 := hCb.cg (fun r _ _ => e17 r (by omega))
  have e17' : ∀ r, 1 ≤ r → r ≤ 17 → w1.1 r = w.1 r := fun r _ h2 => e17 r (by omega)
  have hV1 : LV hb L w1.1 := by
    unfold LV at hVb ⊢
    rw [sN_cg e17', cwn_cg e17', nan_cg e17', WN_cg e17', CX_cg e17']; exact hVb
  have hent : ent w1.1 r = ent w.1 r := by
    funext k; unfold ent; rw [e17 43 (by decide), e17 44 (by decide)]
  have hci : m_i hb (L + 1) = m_i h (L + 1) := (hFb.2.2.2 (L + 1) (by omega)).1
  obtain ⟨h2, w2, x, p1, p2, p3, p4, p5⟩ := clauses (G := G) hC1 hS1 hLb hV1 hD hr (w0 := w1) rfl (n := n) (S := S) (T := T) (E := E) hn (by rw [e17 45 (by decide)]; exact h45) hSn (by rw [hFb.1]; exact hlen) (fun c hc => by
    rw [hent, hci, e17 46 (by decide), e17 47 (by decide), e17 48 (by decide)]
    exact hcl c hc) n 0 bN bN hb w1 (Nat.zero_add _) EI.rf ⟨by show m_i (m_si ha L 2 0) L 2 = nI 0; rw [m_i_ss]; rfl, fun i hi => absurd hi (by simp)⟩ rfl (fun i hi => by rw [g3 i hi]; unfold askL; rw [askV_cg e17']) (by have := bN_gt (d := 1000000) (Nat.le_refl _); omega) (by have := bN_gt (d := 1000000) (Nat.le_refl _); omega)
  refine ⟨h2, w1, w2, x, ?_, g1, ?_, ?_, ?_, p5⟩
  · unfold f_X2_holeFor
    rw [u_ck hL.1, f1, u_ob, u_ck (by rw [hF.1]; exact hL.1), u_nn]
    rw [hS0, Nat.zero_add, nI_0] at p1
    exact p1
  · unfold p_X12_pulled
    rw [u_ck ix_17_16, tn_16, e17 1 (by decide), h16, u_nn, u_nn]
    have e12 : (12 : Int32) * nI r = nI (12 * r) := by rw [show (12 : Int32) = nI 12 from rfl, pk_mul]
    rw [e12]
    exact p2
  · refine ⟨p3.1.trans hFb.1, p3.2.1.trans hFb.2.1, p3.2.2.1.trans hFb.2.2.1, fun a ha => ?_⟩
    unfold LSc at ha
    refine ⟨?_, ?_⟩
    · rw [p3.2.2.2.1 a (by omega)]; exact (hFb.2.2.2 a (by omega)).1
    · rw [p3.2.2.2.2.1 a (by omega)]; exact (hFb.2.2.2 a (by omega)).2
  · intro k hk
    rw [p4]; exact e17 k hk
/-- the law that the class is given, and the reference's number in force -/
def LawOk (h : AH) (c t : Nat) (v : VV) (law : Option Nat) : Prop := (law = none ∧ v 1 16 = -1) ∨ ∃ L r, law = some L ∧ v 1 16 = nI r ∧ r < 6 ∧ LaS h L ∧ LawV h L v r ∧ DjL L c t
/-- what a mile changes -/
def MSc (c : Nat) (law : Option Nat) (a : Nat) : Prop := (c ≤ a ∧ a < c + 5) ∨ ∃ L, law = some L ∧ LSc L a
def MRw (k : Nat) : Prop := k = 1 ∨ k = 2 ∨ k = 9 ∨ k = 10 ∨ k = 11 ∨ k = 12 ∨ k = 52
theorem LawV.cg {h : AH} {L : Nat} {v v' : VV} {r : Nat} (hL : LawV h L v r) (e : ∀ k, 43 ≤ k → k ≤ 48 → v' k = v k) : LawV h L v' r := by
  have hent : ent v' r = ent v r := by
    funext k; unfold ent; rw [e 43 (by decide) (by decide), e 44 (by decide) (by decide)]
  obtain ⟨n, S, T, E, hn, h45, hS0, hSn, hlen, hcl⟩ := hL
  refine ⟨n, S, T, E, hn, by rw [e 45 (by decide) (by decide)]; exact h45, hS0, hSn, hlen, fun c hc => ?_⟩
  rw [hent, e 46 (by decide) (by decide), e 47 (by decide) (by decide), e 48 (by decide) (by decide)]
  exact hcl c hc
theorem LawV.hp {h h' : AH} {L : Nat} {v : VV} {r : Nat} (hL : LawV h L v r) (ht : m_t h' (L + 1) = m_t h (L + 1)) (hi : m_i h' (L + 1) = m_i h (L + 1)) : LawV h' L v r := by
  unfold LawV at hL ⊢; rw [ht, hi]; exact hL
theorem LaS.hp {h h' : AH} {L : Nat} (hL : LaS h L) (ht : ∀ a, L ≤ a → a < L + 4 → m_t h' a = m_t h a) (hr : m_r h' L = m_r h L) : LaS h' L := by
  unfold LaS at hL ⊢; rw [ht L (by omega) (by omega), ht (L + 1) (by omega) (by omega), ht (L + 2) (by omega) (by omega), ht (L + 3) (by omega) (by omega), hr]; exact hL
theorem go_both (hC : Cab h c t w.1) (hS : St w.1) (hA : Ab w.1) (hR : Cr w.1) (hm : (w.1 1 10).toInt < 240) {law : Option Nat} (hlaw : LawOk h c t w.1 law) : ∃ h2 w2 x, f_X0_go G c law h = some (x, h2) ∧ p_X12_mileGoes G w = some (x, w2) ∧ Cab h2 c t w2.1 ∧ St w2.1 ∧ Ab w2.1 ∧ Cr w2.1 ∧ LawOk h2 c t w2.1 law ∧ Fr (MSc c law) h h2 ∧ Fw MRw w w2 ∧ (∀ i, i ≠ 10 → i ≠ 11 → i ≠ 13 → w2.1 1 i = w.1 1 i) ∧ w2.1 1 10 = w.1 1 10 + 1 ∧ x = dsum w w2 (sN w.1) := by
  rcases hlaw with ⟨rfl, h16⟩ | ⟨L, r, rfl, h16, hr, hL, hLV, hD⟩
  · obtain ⟨h2, w2, x, f1, f2, f3, f4, f5, f6, f7, f8, f9, f10, f11, f12⟩ := roll_both (G := G) hC hS hA hR hm
    refine ⟨h2, w2, x, f1, ?_, f3, f4, f5, f6, Or.inl ⟨rfl, by rw [f10 16 (by decide) (by decide)]; exact h16⟩, f7.wk (fun a ha => Or.inl ha), f8.wk (fun k hk => by unfold MRw; omega), fun i h1 h2 _ => f10 i h1 h2, f11, f12⟩
    unfold p_X12_mileGoes
    rw [u_ck ix_17_16, u_nn, tn_16, if_pos h16]
    dsimp only
    rw [f2]; rfl
  · obtain ⟨ha, w1, wa, y, g1, g2, g3, g4, g5, g6⟩ := hole_both (G := G) hC hS hA hL hD hr hLV h16
    let hb := m_si ha c 2 y
    let wb := w_si wa 1 13 y
    have ew : ∀ k, k ≠ 1 → k ≠ 52 → wb.1 k = w.1 k := fun k h1 h2 => by
      show (w_si wa 1 13 y).1 k = _
      rw [w_si_r h1]; exact g5 k h2
    have e1 : ∀ i, i ≠ 13 → wb.1 1 i = w.1 1 i := fun i hi => by
      show (w_si wa 1 13 y).1 1 i = _
      rw [w_si_j hi, g5 1 (by decide)]
    have e13 : wb.1 1 13 = y := w_si_s _ _ _ _
    have hSb : St wb.1 := hS.r1 (fun r h1 h2 _ => ew r (by omega) (by omega)) (fun i hi => e1 i (by omega)) (by rw [e1 10 (by decide)]; exact st_mile hS) (by rw [e1 11 (by decide)]; exact st_warm hS) (by rw [e13]; exact g6) (fun k hk => by
      have := st_kv hS hk
      unfold kv at this ⊢
      rw [e1 12 (by decide), ew 2 (by decide) (by decide)]; exact this)
    have hCa : Cab ha c t w.1 := hC.fr (st_N8 hS) g4 (fun a ha => by unfold LSc at ha; unfold DjL at hD; omega)
    have hCb : Cab hb c t wb.1 := by
      refine hCa.sc (h' := hb) (st_N8 hS) rfl rfl (fun a ha => m_i_sb ha) (fun r h1 h2 _ => ew r (by omega) (by omega)) (fun i hi => e1 i (by omega)) (by rw [e13]; exact m_i_ss _ _ _ _) ?_ ?_ ?_
      · show m_i (m_si ha c 2 y) c 3 = _
        rw [m_i_sj (by decide), cab_i3 hCa, e1 11 (by decide)]
      · show m_i (m_si ha c 2 y) c 4 = _
        rw [m_i_sj (by decide), cab_i4 hCa, e1 10 (by decide)]
      · show KV (m_i (m_si ha c 2 y) c 5) _
        rw [m_i_sj (by decide)]
        have := cab_i5 hCa
        unfold KV kv at this ⊢
        rw [e1 12 (by decide), ew 2 (by decide) (by decide)]; exact this
    have hAb : Ab wb.1 := by
      unfold Ab sN at hA ⊢
      rw [e1 6 (by decide), e1 10 (by decide), ew 4 (by decide) (by decide), ew 5 (by decide) (by decide), ew 10 (by decide) (by decide)]; exact hA
    have hRb : Cr wb.1 := by
      unfold Cr sN at hR ⊢
      rw [e1 6 (by decide), e1 10 (by decide), ew 11 (by decide) (by decide)]; exact hR
    obtain ⟨h2, w2, x, f1, f2, f3, f4, f5, f6, f7, f8, f9, f10, f11, f12⟩ := roll_both (G := G) hCb hSb hAb hRb (by rw [e1 10 (by decide)]; exact hm)
    have hFab : Fr (MSc c (some L)) h h2 := ((g4.wk (fun a ha => Or.inr ⟨L, rfl, ha⟩)).tr (Fr.si (a := c) (k := 2) (v := y) (Or.inl (by omega)))).tr (f7.wk (fun a ha => Or.inl ha))
    have hci : m_i h2 (L + 1) = m_i h (L + 1) := (hFab.2.2.2 (L + 1) (by
      unfold MSc LSc DjL at *
      rintro (q | ⟨L2, e, q⟩)
      · omega
      · cases e; omega)).1
    refine ⟨h2, w2, x, ?_, ?_, f3, f4, f5, f6, Or.inr ⟨L, r, rfl, ?_, hr, hL.hp (fun a _ _ => by rw [hFab.1]) (by rw [hFab.2.1]), ?_, hD⟩, hFab, ?_, fun i h1 h2 h3 => ?_, ?_, ?_⟩
    · unfold f_X0_go at f1 ⊢
      rw [u_nn, on_n] at f1
      rw [u_nn, on_s, u_ck hL.1, g1, u_cb, u_ck (cab_t hCa), u_nn]
      exact f1
    · unfold p_X12_mileGoes
      rw [u_ck ix_17_16, u_nn, tn_16, if_neg (by rw [h16]; exact nI_m1 (by omega)), g2, u_ob, g3, u_cw, u_ck ix_17_13, u_nn, tn_13]
      dsimp only
      show cw (p_X12_rolls G wb) _ = _
      rw [f2]; rfl
    · rw [f10 16 (by decide) (by decide), e1 16 (by decide)]; exact h16
    · refine (hLV.cg (v' := w2.1) (fun k h1 h2 => ?_)).hp (by rw [hFab.1]) hci
      rw [f8 k (by omega), ew k (by omega) (by omega)]
    · intro k hk
      unfold MRw at hk
      rw [f8 k (by omega), ew k (by omega) (by omega)]
    · rw [f10 i h1 h2, e1 i h3]
    · rw [f11, e1 10 (by decide)]
    · rw [f12]
      have en : sN wb.1 = sN w.1 := by unfold sN; rw [e1 6 (by decide)]
      rw [en]
      unfold dsum
      rw [ew 12 (by decide) (by decide)]
end
