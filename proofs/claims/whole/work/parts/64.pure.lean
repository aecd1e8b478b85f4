/-! PURE 64: pictures under changes; a mile's suffering. -/
theorem fs_snoc {α : Type} {f : Nat → α → α} : ∀ {d k : Nat} {a : α}, fs f (d + 1) k a = f (k + d) (fs f d k a)
  | 0, _, _ => rfl
  | d + 1, k, a => by
    show fs f (d + 1) (k + 1) (f k a) = f (k + (d + 1)) (fs f d (k + 1) (f k a))
    rw [fs_snoc, show k + 1 + d = k + (d + 1) by omega]
theorem TrV.hp {h h' : AH} {t : Nat} {v : VV} (hT : TrV h t v) (hN : sN v ≤ 8) (hi : ∀ a, t ≤ a → a < t + 15 → m_i h' a = m_i h a) : TrV h' t v := by
  obtain ⟨h0, h1, h2, h3, h4, h5, h6, h7, h8, h9, h10⟩ := hT
  have e0 := hi t (by omega) (by omega)
  refine ⟨by rw [e0]; exact h0, by rw [e0]; exact h1, by rw [e0]; exact h2, by rw [e0]; exact h3, by rw [e0]; exact h4, by rw [e0]; exact h5, by rw [e0]; exact h6, by rw [e0]; exact h7, fun k hk => ?_, fun k hk => ?_, fun q hq => ?_⟩
  · rw [hi (t + 2) (by omega) (by omega), hi (t + 3) (by omega) (by omega)]; exact h8 k hk
  · rw [hi (t + 4) (by omega) (by omega), hi (t + 5) (by omega) (by omega), hi (t + 6) (by omega) (by omega)]; exact h9 k hk
  · rw [hi (t + 7 + q) (by omega) (by omega)]; exact h10 q hq
theorem TrV.cg {h : AH} {t : Nat} {v v' : VV} (hT : TrV h t v) (e : ∀ r, r ≤ 7 ∨ 13 ≤ r → v' r = v r) : TrV h t v' := by
  unfold TrV sN sT sC fro at hT ⊢
  rw [e 1 (by decide), e 3 (by decide), e 4 (by decide), e 5 (by decide), e 6 (by decide), e 7 (by decide), e 13 (by decide), e 14 (by decide), e 15 (by decide), e 16 (by decide), e 17 (by decide)]
  exact hT
theorem CaV.hp {h h' : AH} {c : Nat} {v : VV} (hC : CaV h c v) (hi : ∀ a, c ≤ a → a < c + 5 → m_i h' a = m_i h a) : CaV h' c v := by
  unfold CaV at hC ⊢
  rw [hi c (by omega) (by omega), hi (c + 1) (by omega) (by omega), hi (c + 2) (by omega) (by omega), hi (c + 3) (by omega) (by omega), hi (c + 4) (by omega) (by omega)]
  exact hC
theorem CaV.cg {h : AH} {c : Nat} {v v' : VV} (hC : CaV h c v) (e : ∀ r, r ≤ 17 → r ≠ 10 → v' r = v r) : CaV h c v' := by
  unfold CaV KV kv sN at hC ⊢
  rw [e 1 (by decide) (by decide), e 2 (by decide) (by decide), e 8 (by decide) (by decide), e 9 (by decide) (by decide), e 11 (by decide) (by decide), e 12 (by decide) (by decide)]
  exact hC
theorem Cab.cg {h : AH} {c t : Nat} {v v' : VV} (hC : Cab h c t v) (e : ∀ r, r ≤ 17 → r ≠ 10 → v' r = v r) : Cab h c t v' := by
  refine ⟨hC.1, hC.2.1, ?_, hC.2.2.2.1.cg e, hC.2.2.2.2⟩
  have hT := hC.2.2.1
  unfold TrV sN sT sC fro at hT ⊢
  rw [e 1 (by decide) (by decide), e 3 (by decide) (by decide), e 4 (by decide) (by decide), e 5 (by decide) (by decide), e 6 (by decide) (by decide), e 7 (by decide) (by decide), e 13 (by decide) (by decide), e 14 (by decide) (by decide), e 15 (by decide) (by decide), e 16 (by decide) (by decide), e 17 (by decide) (by decide)]
  exact hT
theorem TrS.hp {h h' : AH} {t : Nat} (hT : TrS h t) (ht : ∀ a, t ≤ a → a < t + 15 → m_t h' a = m_t h a ∧ m_r h' a = m_r h a) : TrS h' t := by
  obtain ⟨h0, h1, h2, h3, h4, h5, h6, h7, ⟨a1, a2, a3, a4, a5⟩, h9⟩ := hT
  have e0 := ht t (by omega) (by omega)
  have e1 := ht (t + 1) (by omega) (by omega)
  refine ⟨by rw [e0.1]; exact h0, by rw [e0.2]; exact h1, by rw [e0.2]; exact h2, by rw [e0.2]; exact h3, by rw [e0.2]; exact h4, by rw [e0.2]; exact h5, by rw [e0.2]; exact h6, by rw [e1.1]; exact h7, ⟨by rw [(ht (t + 2) (by omega) (by omega)).1]; exact a1, by rw [(ht (t + 3) (by omega) (by omega)).1]; exact a2, by rw [(ht (t + 4) (by omega) (by omega)).1]; exact a3, by rw [(ht (t + 5) (by omega) (by omega)).1]; exact a4, by rw [(ht (t + 6) (by omega) (by omega)).1]; exact a5⟩, fun q hq => ?_⟩
  rw [e1.2, (ht (t + 7 + q) (by omega) (by omega)).1]
  exact h9 q hq
theorem CaS.hp {h h' : AH} {c : Nat} (hC : CaS h c) (ht : ∀ a, c ≤ a → a < c + 5 → m_t h' a = m_t h a) (hr : ∀ k, 6 ≤ k → m_r h' c k = m_r h c k) : CaS h' c := by
  obtain ⟨h0, h1, h2, h3, h4, h5, h6, h7, h8⟩ := hC
  refine ⟨by rw [ht c (by omega) (by omega)]; exact h0, by rw [hr 6 (by omega)]; exact h1, by rw [hr 7 (by omega)]; exact h2, by rw [hr 8 (by omega)]; exact h3, by rw [hr 9 (by omega)]; exact h4, by rw [ht _ (by omega) (by omega)]; exact h5, by rw [ht _ (by omega) (by omega)]; exact h6, by rw [ht _ (by omega) (by omega)]; exact h7, by rw [ht _ (by omega) (by omega)]; exact h8⟩
theorem Cab.hp {h h' : AH} {c t : Nat} {v : VV} (hC : Cab h c t v) (hN : sN v ≤ 8) (ht : ∀ a, (c ≤ a ∧ a < c + 5) ∨ (t ≤ a ∧ a < t + 15) → m_t h' a = m_t h a ∧ m_r h' a = m_r h a ∧ m_i h' a = m_i h a) : Cab h' c t v := by
  have h1 := (ht c (by omega)).2.1
  exact ⟨⟨hC.1.1.hp (fun a h1 h2 => (ht a (Or.inl ⟨h1, h2⟩)).1) (fun k _ => by rw [h1]), by rw [h1]; exact hC.1.2⟩, hC.2.1.hp (fun a h1 h2 => ⟨(ht a (Or.inr ⟨h1, h2⟩)).1, (ht a (Or.inr ⟨h1, h2⟩)).2.1⟩), hC.2.2.1.hp hN (fun a h1 h2 => (ht a (Or.inr ⟨h1, h2⟩)).2.2), hC.2.2.2.1.hp (fun a h1 h2 => (ht a (Or.inl ⟨h1, h2⟩)).2.2), hC.2.2.2.2⟩
theorem Cab.fr {S : Nat → Prop} {h h' : AH} {c t : Nat} {v : VV} (hC : Cab h c t v) (hN : sN v ≤ 8) (hF : Fr S h h') (hs : ∀ a, S a → ¬ ((c ≤ a ∧ a < c + 5) ∨ (t ≤ a ∧ a < t + 15))) : Cab h' c t v :=
  hC.hp hN (fun a ha => ⟨by rw [hF.1], by rw [hF.2.1], (hF.2.2.2 a (fun q => hs a q ha)).1⟩)
/-- a cabin's row and the reference's, changed alike -/
theorem Cab.si {h : AH} {c t : Nat} {w : MS} (hC : Cab h c t w.1) (hN : sN w.1 ≤ 8) (r o q : Nat) (x : Int32) (hr : (r = 9 ∧ o = 1) ∨ (r = 11 ∧ o = 2) ∨ (r = 12 ∧ o = 3) ∨ (r = 8 ∧ o = 4)) : Cab (m_si h (c + o) q x) c t (w_si w r q x).1 := by
  have ho : 1 ≤ o ∧ o ≤ 4 := by omega
  have hrr : 8 ≤ r ∧ r ≤ 12 := by omega
  have er : ∀ k, k ≠ r → (w_si w r q x).1 k = w.1 k := fun k hk => w_si_r hk
  obtain ⟨hs, hts, htv, hcv, hd⟩ := hC
  refine ⟨hs, hts, ?_, ?_, hd⟩
  · exact (htv.hp hN (h' := m_si h (c + o) q x) (fun a h1 h2 => m_i_sb (by omega))).cg (fun k hk => er k (by omega))
  · obtain ⟨h1, h2, h3, h4, h5⟩ := hcv
    have en : sN (w_si w r q x).1 = sN w.1 := by unfold sN; rw [er 1 (by omega)]
    unfold CaV KV kv
    rw [en, er 1 (by omega), er 2 (by omega), m_i_sb (show c ≠ c + o by omega)]
    refine ⟨h1, h2, h3, h4, fun j hj => ?_⟩
    obtain ⟨g1, g2, g3, g4⟩ := h5 j hj
    rcases hr with ⟨e1, e2⟩ | ⟨e1, e2⟩ | ⟨e1, e2⟩ | ⟨e1, e2⟩ <;> subst e1 e2 <;> simp only [m_i_si, w_si_e, g1, g2, g3, g4] <;> simp
/-- what changes with the acts -/
def Dy (v v' : VV) (q : Nat) : Prop := bd (v' 8 q) (-9) 9 ∧ bd (v' 9 q) (-1) 7 ∧ (v' 10 q = 0 ∨ v' 10 q = 1) ∧ (v' 9 q ≠ -1 → v' 10 q = 1) ∧ ((4 : Int32) ≤ v' 9 q → fro v q = 0) ∧ bd (v' 11 q) 0 300
theorem St.dy {v : VV} (hS : St v) {q : Nat} (hq : q < sN v) : Dy v v q := (st_P hS hq).2.2.2.2.2.2
theorem St.dyn {v v' : VV} (hS : St v) (e : ∀ r, 1 ≤ r → (r ≤ 7 ∨ (13 ≤ r ∧ r ≤ 17)) → v' r = v r) (hP : ∀ q, q < sN v → Dy v v' q) (hD : ∀ q r, q < sN v → r < sN v → v' 9 q ≠ -1 → v' 9 q = v' 9 r → q = r) : St v' := by
  have hP2 : ∀ q, q < sN v → SP v q := fun q hq => st_P hS hq
  unfold St SP kv sN sT sC sL fro at hS ⊢
  unfold Dy sN fro at hP
  unfold SP sN fro at hP2
  unfold sN at hD
  rw [e 1 (by decide) (by decide), e 2 (by decide) (by decide), e 3 (by decide) (by decide), e 4 (by decide) (by decide), e 5 (by decide) (by decide), e 6 (by decide) (by decide), e 7 (by decide) (by decide), e 13 (by decide) (by decide), e 14 (by decide) (by decide), e 17 (by decide) (by decide)]
  obtain ⟨a1, a2, a3, a4, a5, a6, a7, a8, a9, a10, a11, a12, a13, a14, a15⟩ := hS
  refine ⟨a1, a2, a3, a4, a5, a6, a7, a8, a9, a10, a11, a12, a13, fun q hq => ?_, hD⟩
  obtain ⟨b1, b2, b3, b4, b5, b6, -⟩ := hP2 q hq
  exact ⟨b1, b2, b3, b4, b5, b6, hP q hq⟩
theorem St.cg {v v' : VV} (hS : St v) (e : ∀ r, 1 ≤ r → r ≤ 17 → r ≠ 12 → v' r = v r) : St v' := by
  refine hS.dyn (fun r h1 h2 => e r h1 (by omega) (by omega)) (fun q hq => ?_) ?_
  · unfold Dy
    rw [e 8 (by decide) (by decide) (by decide), e 9 (by decide) (by decide) (by decide), e 10 (by decide) (by decide) (by decide), e 11 (by decide) (by decide) (by decide)]
    exact hS.dy hq
  · rw [e 9 (by decide) (by decide) (by decide)]
    exact fun q r h1 h2 h3 h4 => st_D hS h1 h2 h3 h4
theorem Ab.cg {v v' : VV} (hA : Ab v) (e : ∀ r, r = 1 ∨ r = 4 ∨ r = 5 ∨ r = 10 → v' r = v r) : Ab v' := by
  unfold Ab sN at hA ⊢
  rw [e 1 (by decide), e 4 (by decide), e 5 (by decide), e 10 (by decide)]
  exact hA
/-- what rows 12 gained -/
def dsum (w w' : MS) (k : Nat) : Int32 := fs (fun j a => a + (w'.1 12 j - w.1 12 j)) k 0 0
theorem unV_cg {v v' : VV} {q : Nat} {s x : Int32} (e : ∀ r, r = 1 ∨ r = 6 ∨ r = 7 → v' r = v r) : unV v' q s x = unV v q s x := by
  unfold unV; rw [e 1 (by decide), e 6 (by decide), e 7 (by decide)]
theorem tunV_cg {v v' : VV} {m : Int32} (e : ∀ r, r = 1 ∨ r = 13 ∨ r = 14 → v' r = v r) : tunV v' m = tunV v m := by
  unfold tunV sT; rw [e 1 (by decide), e 13 (by decide), e 14 (by decide)]
theorem tollV_cg {v v' : VV} {x : Int32} (e : ∀ r, r = 1 ∨ r = 13 ∨ r = 14 → v' r = v r) : tollV v' x = tollV v x := by
  unfold tollV; rw [tunV_cg e, e 1 (by decide)]
theorem wantV_cg {v v' : VV} {q : Nat} (e : ∀ r, r = 7 ∨ r = 8 ∨ r = 9 → v' r = v r) : wantV v' q = wantV v q := by
  unfold wantV; rw [e 7 (by decide), e 8 (by decide), e 9 (by decide)]
theorem sub_add_c (a b : Int32) : a + b - a = b := by
  rw [Int32.add_comm, Int32.add_sub_cancel]
section
variable {G : GG} {c t : Nat} {h : AH} {w : MS}
/-- the suffering loop's invariant -/
def SI (c t : Nat) (h : AH) (w : MS) (k : Nat) (h' : AH) (w' : MS) (acc : Int32) : Prop :=
  Cab h' c t w'.1 ∧ Fr (fun a => a = c + 2 ∨ a = c + 3) h h' ∧ Fw (fun k => k = 11 ∨ k = 12) w w' ∧ w'.2 = w.2 ∧
  (∀ j, j < sN w.1 → bd (w'.1 11 j) 0 ((w.1 1 10).toInt + if j < k then 1 else 0)) ∧ acc = dsum w w' k ∧ ∀ j, k ≤ j → w'.1 12 j = w.1 12 j
theorem SI.st {k : Nat} {h' : AH} {w' : MS} {acc : Int32} (hI : SI c t h w k h' w' acc) (hS : St w.1) : St w'.1 := by
  have e := hI.2.2.1
  refine hS.dyn (fun r h1 h2 => e r (by omega)) (fun q hq => ?_) ?_
  · have := hS.dy hq
    unfold Dy at this ⊢
    rw [e 8 (by decide), e 9 (by decide), e 10 (by decide)]
    refine ⟨this.1, this.2.1, this.2.2.1, this.2.2.2.1, this.2.2.2.2.1, ?_⟩
    have h1 := hI.2.2.2.2.1 q hq
    have h2 := (st_mile hS).2
    unfold bd at h1 ⊢
    split at h1 <;> omega
  · rw [e 9 (by decide)]
    exact fun q r h1 h2 h3 h4 => st_D hS h1 h2 h3 h4
theorem suf_step (hS : St w.1) (hA : Ab w.1) {k : Nat} (hk : k < sN w.1) {h' : AH} {w' : MS} {acc : Int32} (hI : SI c t h w k h' w' acc) : ∃ h2 w2 acc2, SI c t h w (k + 1) h2 w2 acc2 ∧ (∀ self, F_X0_suffer_13 G c (tollV w.1 (w.1 1 13)) self acc (nI k) h' = self acc2 (nI k + 1) h2) ∧ ∀ self K, P_X12_rolls_4 G K self acc (nI k) w' = self acc2 (nI k + 1) w2 := by
  have hS' := hI.st hS
  obtain ⟨hC, hF, hW, hl, hb, ha, h12⟩ := hI
  have e1 : w'.1 1 = w.1 1 := hW 1 (by decide)
  have en : sN w'.1 = sN w.1 := by unfold sN; rw [e1]
  have hA' : Ab w'.1 := hA.cg (fun r hr => hW r (by omega))
  have hq : k < sN w'.1 := by rw [en]; exact hk
  have hS := hS'
  have et : tollV w.1 (w.1 1 13) = tollV w'.1 (w'.1 1 13) := by rw [tollV_cg (fun r hr => hW r (by omega)), e1]
  have h88 : Nat → sN w.1 ≤ 8 := fun _ => by rw [← en]; exact st_N8 hS'
  have hP := st_P hS hq
  have ds : ∀ w2 : MS, (∀ j, j < k → w2.1 12 j = w'.1 12 j) → dsum w w2 k = dsum w w' k := fun w2 e => fs_cong (fun j _ hj x => by rw [e j (by omega)])
  rcases ab01 hS hq with e0 | e0
  · refine ⟨h', w', acc, ⟨hC, hF, hW, hl, fun j hj => ?_, ?_, fun j hj => h12 j (by omega)⟩, fun self => ?_, fun self K => ?_⟩
    · have := hb j hj
      unfold bd at this ⊢
      by_cases hjk : j < k
      · rw [if_pos hjk] at this; rw [if_pos (by omega)]; exact this
      · rw [if_neg hjk] at this
        split <;> omega
    · rw [ha]; unfold dsum
      rw [fs_snoc, h12 (0 + k) (by omega), Int32.sub_self, Int32.add_zero]
    · unfold F_X0_suffer_13
      simp only [u_nn, u_ob, u_cb, u_cw, u_ck, on_s, on_n, cab_t hC, cab_0 hC, cab_6 hC, cab_7 hC, cab_8 hC, cab_9 hC, tr_t hC, tr_6 hC, tr_8 hC, tr_9 hC, tr_11 hC, tr_12 hC, tr_13 hC, cab_i2 hC, cab_i3 hC, cab_i4 hC, tr_i0 hC, tr_i1 hC, tr_i2 hC, tr_i3 hC, tr_i4 hC, tr_i5 hC, tr_i7 hC, tr_i10 hC, q8 hS hq, qc hS hq, cab_x1 hC hS hq, cab_x2 hC hS hq, cab_x3 hC hS hq, cab_x4 hC hS hq, cab_v1 hC hq, cab_v2 hC hq, cab_v3 hC hq, cab_v4 hC hq, tr_x1 hC hS hq, tr_rq hC hS hq, tr_tq hC hS hq, tr_q0 hC hq, tr_q1 hC hq, tr_q2 hC hq, tr_q3 hC hq, tr_q4 hC hq, tr_q6 hC hq, nle_q hS hq, if_false, c_isAboard hC hS hA' hq, e0, if_true]
    · unfold P_X12_rolls_4
      simp only [u_nn, u_ob, u_cb, u_cw, u_ck, on_s, on_n, ix_1_0, ix_7_0, ix_10_0, ix_10_1, ix_10_2, ix_10_3, ix_10_4, ix_10_5, ix_10_6, ix_10_7, ix_10_8, ix_10_9, ix_13_0, ix_13_1, ix_13_2, ix_13_3, ix_13_4, ix_13_5, ix_13_6, ix_13_7, ix_13_8, ix_13_9, ix_13_10, ix_13_11, ix_13_12, ix_17_0, ix_17_1, ix_17_2, ix_17_3, ix_17_4, ix_17_6, ix_17_7, ix_17_8, ix_17_9, ix_17_10, ix_17_11, ix_17_12, ix_17_13, ix_17_14, ix_17_15, ix_17_16, ix_256_0, ix_300_0, tn_0, tn_1, tn_2, tn_3, tn_4, tn_5, tn_6, tn_7, tn_8, tn_9, tn_10, tn_11, tn_12, tn_13, tn_14, tn_15, tn_16, tn_366, nle_q hS hq, if_false, p_rides hS hq, e0, if_true]
  · -- aboard
    let x := unV w'.1 k (w'.1 9 k) (w'.1 1 13) + tollV w'.1 (w'.1 1 13)
    let y : Int32 := if wantV w'.1 k = w'.1 1 13 then (if w'.1 11 k ≤ 0 then 0 else w'.1 11 k - 1) else w'.1 11 k + 1
    have hb0 := hb k hk
    rw [if_neg (by omega)] at hb0
    have hm := st_mile hS
    rw [e1] at hm
    have hbk : bd (w'.1 11 k) 0 240 := ⟨hb0.1, by have := hb0.2; have := hm.2; omega⟩
    have hy1 : (if wantV w'.1 k = w'.1 1 13 then (w'.1 11 k + -1) else w'.1 11 k + 1) = if wantV w'.1 k = w'.1 1 13 then (w'.1 11 k - 1) else w'.1 11 k + 1 := by
      split
      · rw [Int32.sub_eq_add_neg]
      · rfl
    have i0 : (0 : Int32).toInt = 0 := rfl
    have i1 : (1 : Int32).toInt = 1 := rfl
    have hym : (w'.1 11 k - 1).toInt = (w'.1 11 k).toInt - 1 := by rw [I_sub (by rw [i1]; have := hbk.1; omega) (by rw [i1]; have := hbk.2; omega), i1]
    have hyp : (w'.1 11 k + 1).toInt = (w'.1 11 k).toInt + 1 := by rw [I_add (by rw [i1]; have := hbk.1; omega) (by rw [i1]; have := hbk.2; omega), i1]
    have hyb : bd y 0 ((w.1 1 10).toInt + 1) := by
      have := hb0.1; have := hb0.2
      show bd (if wantV w'.1 k = w'.1 1 13 then (if w'.1 11 k ≤ 0 then 0 else w'.1 11 k - 1) else w'.1 11 k + 1) 0 ((w.1 1 10).toInt + 1)
      unfold bd
      split
      · split
        · rw [i0]; omega
        · rename_i hh; rw [I_le, i0] at hh; rw [hym]; omega
      · rw [hyp]; omega
    have hC1 := hC.si (by rw [en]; exact h88 0) 12 3 k (w'.1 12 k + x) (by decide)
    have eN1 : sN (w_si w' 12 k (w'.1 12 k + x)).1 = sN w'.1 := by unfold sN; rw [w_si_r (by decide)]
    have hS1 : St (w_si w' 12 k (w'.1 12 k + x)).1 := hS.cg (fun r _ _ h2 => w_si_r h2)
    have hC2 := hC1.si (by rw [eN1, en]; exact h88 0) 11 2 k y (by decide)
    have ew : wantV (w_si w' 12 k (w'.1 12 k + x)).1 k = wantV w'.1 k := wantV_cg (fun r hr => w_si_r (by omega))
    have r1 : (w_si w' 12 k (w'.1 12 k + x)).1 1 = w'.1 1 := w_si_r (by decide)
    have r11 : (w_si w' 12 k (w'.1 12 k + x)).1 11 = w'.1 11 := w_si_r (by decide)
    refine ⟨m_si (m_si h' (c + 3) k (w'.1 12 k + x)) (c + 2) k y, w_si (w_si w' 12 k (w'.1 12 k + x)) 11 k y, acc + x, ⟨hC2, (hF.tr (Fr.si (Or.inr rfl))).tr (Fr.si (Or.inl rfl)), (hW.tr (Fw.si (Or.inr rfl))).tr (Fw.si (Or.inl rfl)), hl, fun j hj => ?_, ?_, fun j hj => ?_⟩, fun self => ?_, fun self K => ?_⟩
    · by_cases hjk : j = k
      · subst hjk
        rw [w_si_s, if_pos (by omega)]; exact hyb
      · rw [w_si_j hjk, r11]
        have := hb j hj
        by_cases h3 : j < k
        · rw [if_pos h3] at this; rw [if_pos (by omega)]; exact this
        · rw [if_neg h3] at this; rw [if_neg (by omega)]; exact this
    · have e12 : ∀ j, (w_si (w_si w' 12 k (w'.1 12 k + x)) 11 k y).1 12 j = (w_si w' 12 k (w'.1 12 k + x)).1 12 j := fun j => by rw [w_si_r (by decide)]
      unfold dsum
      rw [fs_snoc, Nat.zero_add, e12, w_si_s, ← h12 k (Nat.le_refl _), sub_add_c, ha]
      congr 1
      exact (ds _ (fun j hj => by rw [e12, w_si_j (by omega)])).symm
    · rw [w_si_r (by decide), w_si_j (by omega)]; exact h12 j (by omega)
    · unfold F_X0_suffer_13
      simp only [u_nn, u_ob, u_cb, u_cw, u_ck, on_s, on_n, cab_t hC, cab_0 hC, cab_6 hC, cab_7 hC, cab_8 hC, cab_9 hC, tr_t hC, tr_6 hC, tr_8 hC, tr_9 hC, tr_11 hC, tr_12 hC, tr_13 hC, cab_i2 hC, cab_i3 hC, cab_i4 hC, tr_i0 hC, tr_i1 hC, tr_i2 hC, tr_i3 hC, tr_i4 hC, tr_i5 hC, tr_i7 hC, tr_i10 hC, q8 hS hq, qc hS hq, cab_x1 hC hS hq, cab_x2 hC hS hq, cab_x3 hC hS hq, cab_x4 hC hS hq, cab_v1 hC hq, cab_v2 hC hq, cab_v3 hC hq, cab_v4 hC hq, tr_x1 hC hS hq, tr_rq hC hS hq, tr_tq hC hS hq, tr_q0 hC hq, tr_q1 hC hq, tr_q2 hC hq, tr_q3 hC hq, tr_q4 hC hq, tr_q6 hC hq, m_t_si, m_r_si, m_l_si, m_n_si, ixb_si, m_t_sl, m_r_sl, m_i_sl, m_n_sl, ixb_sl, m_t_sr, m_i_sr, m_l_sr, m_n_sr, ixb_sr, m_t_sa, m_r_sa, m_l_sa, m_n_sa, ixb_sa, alb_si, alb_sr, alb_sa, nle_q hS hq, if_false, c_isAboard hC hS hA' hq, e0, c_unease hC hS hq hP.2.2.2.2.2.2.2.1, et]
      rw [if_neg (by decide)]
      have hw := c_wantOf (G := G) hC1 hS1 (q := k) (by rw [eN1]; exact hq)
      simp only [x, ew] at hw
      simp only [u_nn, u_ob, u_cb, u_cw, u_ck, on_s, on_n, hw, cab_t hC, cab_0 hC, cab_6 hC, cab_7 hC, cab_8 hC, cab_9 hC, tr_t hC, tr_6 hC, tr_8 hC, tr_9 hC, tr_11 hC, tr_12 hC, tr_13 hC, cab_i2 hC, cab_i3 hC, cab_i4 hC, tr_i0 hC, tr_i1 hC, tr_i2 hC, tr_i3 hC, tr_i4 hC, tr_i5 hC, tr_i7 hC, tr_i10 hC, q8 hS hq, qc hS hq, cab_x1 hC hS hq, cab_x2 hC hS hq, cab_x3 hC hS hq, cab_x4 hC hS hq, cab_v1 hC hq, cab_v2 hC hq, cab_v3 hC hq, cab_v4 hC hq, tr_x1 hC hS hq, tr_rq hC hS hq, tr_tq hC hS hq, tr_q0 hC hq, tr_q1 hC hq, tr_q2 hC hq, tr_q3 hC hq, tr_q4 hC hq, tr_q6 hC hq, m_t_si, m_r_si, m_l_si, m_n_si, ixb_si, m_t_sl, m_r_sl, m_i_sl, m_n_sl, ixb_sl, m_t_sr, m_i_sr, m_l_sr, m_n_sr, ixb_sr, m_t_sa, m_r_sa, m_l_sa, m_n_sa, ixb_sa, alb_si, alb_sr, alb_sa, m_i_sb (show c ≠ c + 3 by omega), m_i_sb (show c + 2 ≠ c + 3 by omega)]
      have hz : ∀ z : Int32, (w'.1 11 k + z) = (w'.1 11 k + z) := fun _ => rfl
      by_cases h5 : wantV w'.1 k = w'.1 1 13
      · simp only [h5, if_true, u_nn, u_ob, u_cb, u_cw, u_ck, on_s, on_n, cab_t hC, cab_0 hC, cab_6 hC, cab_7 hC, cab_8 hC, cab_9 hC, tr_t hC, tr_6 hC, tr_8 hC, tr_9 hC, tr_11 hC, tr_12 hC, tr_13 hC, cab_i2 hC, cab_i3 hC, cab_i4 hC, tr_i0 hC, tr_i1 hC, tr_i2 hC, tr_i3 hC, tr_i4 hC, tr_i5 hC, tr_i7 hC, tr_i10 hC, q8 hS hq, qc hS hq, cab_x1 hC hS hq, cab_x2 hC hS hq, cab_x3 hC hS hq, cab_x4 hC hS hq, cab_v1 hC hq, cab_v2 hC hq, cab_v3 hC hq, cab_v4 hC hq, tr_x1 hC hS hq, tr_rq hC hS hq, tr_tq hC hS hq, tr_q0 hC hq, tr_q1 hC hq, tr_q2 hC hq, tr_q3 hC hq, tr_q4 hC hq, tr_q6 hC hq, m_t_si, m_r_si, m_l_si, m_n_si, ixb_si, m_t_sl, m_r_sl, m_i_sl, m_n_sl, ixb_sl, m_t_sr, m_i_sr, m_l_sr, m_n_sr, ixb_sr, m_t_sa, m_r_sa, m_l_sa, m_n_sa, ixb_sa, alb_si, alb_sr, alb_sa]
        have : (if (0 : Int32) < w'.1 11 k + -1 then w'.1 11 k + -1 else 0) = y := by
          show _ = if wantV w'.1 k = w'.1 1 13 then (if w'.1 11 k ≤ 0 then 0 else w'.1 11 k - 1) else w'.1 11 k + 1
          rw [if_pos h5, ← Int32.sub_eq_add_neg, if_nlt]
          by_cases h6 : w'.1 11 k ≤ 0
          · rw [if_pos h6, if_pos]
            rw [I_le] at h6 ⊢; rw [hym, i0]; rw [i0] at h6; omega
          · rw [if_neg h6]
            by_cases h7 : w'.1 11 k - 1 ≤ 0
            · rw [if_pos h7]; rw [I_le, i0] at h6 h7; rw [I_eq, hym, i0]; rw [hym] at h7; omega
            · rw [if_neg h7]
        rw [this]
      · simp only [h5, if_false, u_nn, u_ob, u_cb, u_cw, u_ck, on_s, on_n, cab_t hC, cab_0 hC, cab_6 hC, cab_7 hC, cab_8 hC, cab_9 hC, tr_t hC, tr_6 hC, tr_8 hC, tr_9 hC, tr_11 hC, tr_12 hC, tr_13 hC, cab_i2 hC, cab_i3 hC, cab_i4 hC, tr_i0 hC, tr_i1 hC, tr_i2 hC, tr_i3 hC, tr_i4 hC, tr_i5 hC, tr_i7 hC, tr_i10 hC, q8 hS hq, qc hS hq, cab_x1 hC hS hq, cab_x2 hC hS hq, cab_x3 hC hS hq, cab_x4 hC hS hq, cab_v1 hC hq, cab_v2 hC hq, cab_v3 hC hq, cab_v4 hC hq, tr_x1 hC hS hq, tr_rq hC hS hq, tr_tq hC hS hq, tr_q0 hC hq, tr_q1 hC hq, tr_q2 hC hq, tr_q3 hC hq, tr_q4 hC hq, tr_q6 hC hq, m_t_si, m_r_si, m_l_si, m_n_si, ixb_si, m_t_sl, m_r_sl, m_i_sl, m_n_sl, ixb_sl, m_t_sr, m_i_sr, m_l_sr, m_n_sr, ixb_sr, m_t_sa, m_r_sa, m_l_sa, m_n_sa, ixb_sa, alb_si, alb_sr, alb_sa]
        have : (if (0 : Int32) < w'.1 11 k + 1 then w'.1 11 k + 1 else 0) = y := by
          show _ = if wantV w'.1 k = w'.1 1 13 then (if w'.1 11 k ≤ 0 then 0 else w'.1 11 k - 1) else w'.1 11 k + 1
          rw [if_neg h5, if_pos]
          rw [I_lt, hyp, i0]; have := hbk.1; omega
        rw [this]
    · unfold P_X12_rolls_4
      simp only [u_nn, u_ob, u_cb, u_cw, u_ck, on_s, on_n, ix_1_0, ix_7_0, ix_10_0, ix_10_1, ix_10_2, ix_10_3, ix_10_4, ix_10_5, ix_10_6, ix_10_7, ix_10_8, ix_10_9, ix_13_0, ix_13_1, ix_13_2, ix_13_3, ix_13_4, ix_13_5, ix_13_6, ix_13_7, ix_13_8, ix_13_9, ix_13_10, ix_13_11, ix_13_12, ix_17_0, ix_17_1, ix_17_2, ix_17_3, ix_17_4, ix_17_6, ix_17_7, ix_17_8, ix_17_9, ix_17_10, ix_17_11, ix_17_12, ix_17_13, ix_17_14, ix_17_15, ix_17_16, ix_256_0, ix_300_0, tn_0, tn_1, tn_2, tn_3, tn_4, tn_5, tn_6, tn_7, tn_8, tn_9, tn_10, tn_11, tn_12, tn_13, tn_14, tn_15, tn_16, tn_366, q8 hS hq, qc hS hq, nle_q hS hq, if_false, p_rides hS hq, e0, p_suffersBy hS hq]
      rw [if_neg (by decide)]
      have hw := p_wantOf (G := G) hS1 (q := k) (by rw [eN1]; exact hq)
      simp only [x, ew] at hw
      simp only [x] at r1 r11
      simp only [u_nn, u_ob, u_cb, u_cw, u_ck, on_s, on_n, hw, r1, r11, ix_1_0, ix_7_0, ix_10_0, ix_10_1, ix_10_2, ix_10_3, ix_10_4, ix_10_5, ix_10_6, ix_10_7, ix_10_8, ix_10_9, ix_13_0, ix_13_1, ix_13_2, ix_13_3, ix_13_4, ix_13_5, ix_13_6, ix_13_7, ix_13_8, ix_13_9, ix_13_10, ix_13_11, ix_13_12, ix_17_0, ix_17_1, ix_17_2, ix_17_3, ix_17_4, ix_17_6, ix_17_7, ix_17_8, ix_17_9, ix_17_10, ix_17_11, ix_17_12, ix_17_13, ix_17_14, ix_17_15, ix_17_16, ix_256_0, ix_300_0, tn_0, tn_1, tn_2, tn_3, tn_4, tn_5, tn_6, tn_7, tn_8, tn_9, tn_10, tn_11, tn_12, tn_13, tn_14, tn_15, tn_16, tn_366]
      by_cases h6 : w'.1 11 k ≤ 0
      · by_cases h5 : wantV w'.1 k = w'.1 1 13
        · simp only [h5, h6, if_true, if_false, x, y]
        · simp only [h5, h6, if_true, if_false, x, y]
      · by_cases h5 : wantV w'.1 k = w'.1 1 13
        · simp only [h5, h6, if_true, if_false, x, y]
        · simp only [h5, h6, if_true, if_false, x, y]
theorem suf_loop (hS : St w.1) (hA : Ab w.1) : ∀ (d k n m : Nat) (h' : AH) (w' : MS) (acc : Int32), k + d = sN w.1 → d < n → d < m → SI c t h w k h' w' acc → ∃ h2 w2 r, lq2 (F_X0_suffer_13 G c (tollV w.1 (w.1 1 13))) n acc (nI k) h' = some (r, h2) ∧ (∀ K, lw2 (P_X12_rolls_4 G K) m acc (nI k) w' = K r w2) ∧ SI c t h w (sN w.1) h2 w2 r
  | 0, k, n + 1, m + 1, h', w', acc, e, _, _, hI => by
    have ek : k = sN w.1 := by omega
    have hS' := hI.st hS
    have e1 : w'.1 1 = w.1 1 := hI.2.2.1 1 (by decide)
    have en : sN w'.1 = sN w.1 := by unfold sN; rw [e1]
    have hC := hI.1
    have hN := nle_N hS'
    rw [en] at hN
    refine ⟨h', w', acc, ?_, fun K => ?_, by rw [← ek]; exact hI⟩
    · show F_X0_suffer_13 G c _ _ _ _ _ = _
      rw [ek]
      unfold F_X0_suffer_13
      simp only [u_nn, u_ob, u_cb, u_cw, u_ck, on_s, on_n, cab_t hC, cab_0 hC, cab_6 hC, cab_7 hC, cab_8 hC, cab_9 hC, tr_t hC, tr_6 hC, tr_8 hC, tr_9 hC, tr_11 hC, tr_12 hC, tr_13 hC, cab_i2 hC, cab_i3 hC, cab_i4 hC, tr_i0 hC, tr_i1 hC, tr_i2 hC, tr_i3 hC, tr_i4 hC, tr_i5 hC, tr_i7 hC, tr_i10 hC, hN, if_true]
    · show P_X12_rolls_4 G K _ _ _ _ = _
      rw [ek]
      unfold P_X12_rolls_4
      simp only [u_nn, u_ob, u_cb, u_cw, u_ck, on_s, on_n, ix_1_0, ix_7_0, ix_10_0, ix_10_1, ix_10_2, ix_10_3, ix_10_4, ix_10_5, ix_10_6, ix_10_7, ix_10_8, ix_10_9, ix_13_0, ix_13_1, ix_13_2, ix_13_3, ix_13_4, ix_13_5, ix_13_6, ix_13_7, ix_13_8, ix_13_9, ix_13_10, ix_13_11, ix_13_12, ix_17_0, ix_17_1, ix_17_2, ix_17_3, ix_17_4, ix_17_6, ix_17_7, ix_17_8, ix_17_9, ix_17_10, ix_17_11, ix_17_12, ix_17_13, ix_17_14, ix_17_15, ix_17_16, ix_256_0, ix_300_0, tn_0, tn_1, tn_2, tn_3, tn_4, tn_5, tn_6, tn_7, tn_8, tn_9, tn_10, tn_11, tn_12, tn_13, tn_14, tn_15, tn_16, tn_366, hN, if_true]
  | d + 1, k, n + 1, m + 1, h', w', acc, e, hn, hm, hI => by
    obtain ⟨h2, w2, acc2, hI2, f1, f2⟩ := suf_step (G := G) hS hA (k := k) (by omega) hI
    obtain ⟨h3, w3, r, g1, g2, g3⟩ := suf_loop hS hA d (k + 1) n m h2 w2 acc2 (by omega) (by omega) (by omega) hI2
    refine ⟨h3, w3, r, ?_, fun K => ?_, g3⟩
    · show F_X0_suffer_13 G c _ _ _ _ _ = _
      rw [f1, nI_1]; exact g1
    · show P_X12_rolls_4 G K _ _ _ _ = _
      rw [f2, nI_1]; exact g2 K
theorem suffer_both (hC : Cab h c t w.1) (hS : St w.1) (hA : Ab w.1) (hR : Cr w.1) : ∃ h2 w2 r, f_X0_suffer G c h = some (r, h2) ∧ (∀ K, lw2 (P_X12_rolls_4 G K) bN 0 0 w = K r w2) ∧ SI c t h w (sN w.1) h2 w2 r := by
  have hI : SI c t h w 0 h w 0 := by
    refine ⟨hC, Fr.rf, Fw.rf, rfl, fun j hj => ?_, rfl, fun _ _ => rfl⟩
    rw [if_neg (by omega)]
    have h1 := (st_P hS hj).2.2.2.2.2.2.2.2.2.2.2
    exact ⟨h1.1, by have := hR j hj; omega⟩
  obtain ⟨h2, w2, r, g1, g2, g3⟩ := suf_loop (G := G) hS hA (sN w.1) 0 bN bN h w 0 (Nat.zero_add _) (bN8 hS) (bN8 hS) hI
  rw [nI_0] at g1
  simp only [nI_0] at g2
  refine ⟨h2, w2, r, ?_, g2, g3⟩
  unfold f_X0_suffer
  rw [u_ck (cab_t hC), c_tollFor hC hS, u_cb, cab_i2 hC]
  exact g1
end
