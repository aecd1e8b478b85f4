/-! PURE 98e: image, the call. -/
section
variable {G : GG} {own own' : Nat → Nat} {R X c t U : Nat} {h h1 h' : AH} {w w2 : MS} {v v' v0 : VV} {Ex : Nat → Prop}
theorem rng_5 {α : Type} {x : Int32} {a b : α} : (if x < 0 then a else if x < 4 then b else a) = if 0 ≤ x ∧ x ≤ 3 then b else a := by
  have i4 : (4 : Int32).toInt = 4 := rfl
  have i3 : (3 : Int32).toInt = 3 := rfl
  have i0 : (0 : Int32).toInt = 0 := rfl
  by_cases h1 : x < 0
  · rw [if_pos h1, if_neg (fun z => by have := z.1; rw [I_lt] at h1; rw [I_le] at this; omega)]
  · rw [if_neg h1]
    by_cases h2 : x < 4
    · rw [if_pos h2, if_pos (by rw [I_lt] at h1 h2; rw [I_le, I_le]; omega)]
    · rw [if_neg h2, if_neg (by rw [I_lt] at h1 h2; rw [I_le, I_le]; omega)]
noncomputable def JK (G : GG) (X k : Nat) (h_40 : AH) : Option (Int32 × AH) := ck (m_t h_40 X = .inl 11) <| ob (m_r h_40 X 6) fun b8 => ck (ixb h_40 b8 (.object RX6) (nI k) = true) <| ob (m_r h_40 b8 k) fun b11 => ob (m_r h_40 X 5) fun b12 => ck (m_t h_40 b11 = .inl 6) <| ob (f_X6_copyFrom G b11 b12 h_40) fun h14 => ck (m_t h14 X = .inl 11) <| ob (m_r h14 X 5) fun b17 => ck (m_t h14 b17 = .inl 6) <| ob (m_r h14 b17 0) fun b19 => ck (m_t h14 b19 = .inl 0) <| some (m_i h14 b19 4, h14)
theorem jk_e {k s : Nat} (hk : k < 4) (a1 : m_t h X = .inl 11) (a2 : m_r h X 6 = some (X + 33)) (a3 : m_t h (X + 33) = .inr (.object RX6, 4)) (a4 : m_r h (X + 33) k = some s) (a5 : m_r h X 5 = some (X + 10)) (a6 : m_t h s = .inl 6) (b1 : f_X6_copyFrom G s (X + 10) h = some h') (hB : Bs h' X c t v) : JK G X k h = some (v 1 10, h') := by
  unfold JK
  rw [u_ck a1, a2, u_ob, u_ck (ixb_e a3 hk (by decide)), a4, u_ob, a5, u_ob, u_ck a6, b1, u_ob, u_ck hB.1.1, hB.1.2.1, u_ob, u_ck hB.1.2.2.1, hB.1.2.2.2.1, u_ob, u_ck hB.1.2.2.2.2.1, hB.2.2.2.2.1]
theorem call_image (x : Int32) : Call X (f_X11_image G X x) (p_X12_image G x) := by
  intro h w ⟨own, R, hR⟩
  obtain ⟨U, c, t, hc⟩ := hR.cur
  have hB := hc.1
  have pin3 : ∀ w : MS, p_X12_in G x.toInt64 (0 : Int64) (3 : Int64) w = some (if 0 ≤ x ∧ x ≤ 3 then 1 else 0, w) := fun w => p_in_i G x 0 3 w
  unfold f_X11_image p_X12_image
  rw [pin3, u_cw, rng_5]
  by_cases h1 : 0 ≤ x ∧ x ≤ 3
  rotate_left
  · rw [if_neg h1, if_neg h1, if_pos rfl]; exact stay hR _
  obtain ⟨k, rfl, hk1, hk2⟩ := nat_of (x := x) (L := 3) h1
  have hk : k < 4 := by have i3 : (3 : Int32).toInt = 3 := rfl; omega
  have g33 := hR.1.2.2.1.2.1
  have g6 : m_r h X 6 = some (X + 33) := hR.1.1.2.2.2.2.2.2.1
  have g8 := hR.1.2.2.2.2.2.2.2
  rw [if_pos h1, if_pos h1, if_neg n10, u_ck hB.1.1, g6, u_ob, u_ck (ixb_e g33 hk (by decide)), u_ck (u_ixn hk (by decide)), nI_clamp (by omega), u_nn, u_nn, show ((1 : Int32) &&& 1) = 1 from rfl]
  obtain ⟨w', f1, f2, f3, f4, f5⟩ := p_carries (G := G) (w := w_si w 82 k 1) hk
  have e0 : ∀ i, i ≠ 83 → i ≠ 84 → w'.1 0 i = w.1 0 i := fun i q1 q2 => by rw [f3 i q1 q2, w_si_r (by decide)]
  have er : ∀ r, r ≠ 0 → r ≠ 54 → r ≠ 81 → r ≠ 82 → w'.1 r = w.1 r := fun r q1 q2 q3 q4 => by rw [f2 r q1 q2 q3, w_si_r q4]
  have e82 : w'.1 82 k = 1 := by rw [f2 82 (by decide) (by decide) (by decide), w_si_s]
  have e82' : ∀ k', k' ≠ k → w'.1 82 k' = w.1 82 k' := fun k' q => by rw [f2 82 (by decide) (by decide) (by decide), w_si_j q]
  have e81 : ∀ j, w'.1 81 j = if 1250 * k + 65 ≤ j ∧ j < 1250 * k + 65 + lenS (sgs RA) then pickS 81 (sgs RA) (1250 * k + 65) w.1 j else if j = 1250 * k + 64 then w.1 0 55 else pickS 81 (sgs R7) (1250 * k) w.1 j := fun j => by
    have c7 : pickS 81 (sgs R7) (1250 * k) (w_si w 82 k 1).1 j = pickS 81 (sgs R7) (1250 * k) w.1 j := pickS_cg (fun q hq => w_si_r (by revert hq; revert q; decide)) (by rw [w_si_r (by decide)])
    have cA : pickS 81 (sgs RA) (1250 * k + 65) (w_si w 82 k 1).1 j = pickS 81 (sgs RA) (1250 * k + 65) w.1 j := pickS_cg (fun q hq => w_si_r (by revert hq; revert q; decide)) (by rw [w_si_r (by decide)])
    rw [f5, c7, cA, w_si_r (show (0 : Nat) ≠ 82 by decide)]
  rw [f1, u_ob, u_ob, u_ck ix_17_10, tn_10]
  have hss : ScS h (X + 10) (X + 31) (X + 32) := hc.2.2.2.2.2.2.2.2
  have c0 : m_r h (X + 10) 0 = some c := hB.1.2.2.2.1
  have hI := hR.2.2.2.2.2 k hk
  have main : ∃ h', (on (m_r h (X + 33) k) (ob (some (X + 33)) fun b23 => nn (m_n h) fun x24 => nn (m_new h (.inl 6)) fun h25 => ck (m_t h25 X = .inl 11) <| ob (m_r h25 X 5) fun b27 => ck (m_t h25 b27 = .inl 6) <| ob (m_r h25 b27 0) fun b29 => ob (f_X6_init G x24 b29 h25) fun h30 => ck (m_t h30 x24 = .inl 6) <| ck (ixb h30 b23 (.object RX6) (nI k) = true) <| nn (m_sr h30 b23 k (some x24)) fun h35 => JK G X k h35) fun b21 => JK G X k h) = some (w'.1 1 10, h') ∧ Rel h' X w' ∧ Kp X h h' := by
    rcases hI with ⟨a1, a2⟩ | ⟨a1, s, U2, a2, a3, a4, a5, a6, a7⟩
    · obtain ⟨h3, i1, i2, i3, i4⟩ := c_scinit (G := G) h c
      let h5 := m_sr h3 (X + 33) k (some (m_n h))
      have n5 : m_n h5 = m_n h + 3 := i2
      have tt : ∀ a, a < m_n h → m_t h5 a = m_t h a := fun a q => (i3 a q).1
      have rr : ∀ a, a < m_n h → a ≠ X + 33 → m_r h5 a = m_r h a := fun a q q2 => (m_r_srb (h := h3) q2).trans (i3 a q).2.1
      have im : ∀ a, a < m_n h → m_i h5 a = m_i h a := fun a q => (i3 a q).2.2.1
      have lm : ∀ a, a < m_n h → m_l h5 a = m_l h a := fun a q => (i3 a q).2.2.2
      have r33k : m_r h5 (X + 33) k = some (m_n h) := m_r_srs _ _ _ _
      have r33 : ∀ k', k' ≠ k → m_r h5 (X + 33) k' = m_r h (X + 33) k' := fun k' q => (m_r_srj (h := h3) q).trans (by rw [(i3 _ (by omega)).2.1])
      have hss5 : ScS h5 (X + 10) (X + 31) (X + 32) := by
        unfold ScS at hss ⊢
        rw [tt _ (by omega), tt _ (by omega), tt _ (by omega), rr _ (by omega) (by omega)]; exact hss
      have hsn5 : ScS h5 (m_n h) (m_n h + 1) (m_n h + 2) := by
        unfold ScS at i4 ⊢
        rw [show m_r h5 (m_n h) = m_r h3 (m_n h) from m_r_srb (by omega)]; exact i4
      obtain ⟨h', b1, b2, b3, b4, b5, b6, b7, b8, b9, b10⟩ := c_scopy (G := G) hss5 hsn5 (show m_r h5 (X + 10) 0 = some c by rw [rr _ (by omega) (by omega)]; exact c0) (by omega) (by omega) (by omega) (by omega)
      have hO := hR.im (h1 := h') (w2 := w') (own' := fun a => if m_n h ≤ a then m_n h else own a) (Ex := fun _ => False) (s := m_n h) hk (fun a z => z.elim) ⟨by rw [b3, n5]; omega, fun a q1 q2 => ⟨by rw [b2]; exact tt a q2, fun z => ⟨by rw [b5 a (by omega)]; exact rr a q2 (by omega), fun _ => by rw [b8 a (by omega) (by omega) (by omega)]; exact im a q2⟩⟩⟩ ⟨fun a _ _ => by rw [b2]; exact tt a (by omega), fun a _ _ _ q q2 _ => by rw [b5 a (by omega)]; exact rr a (by omega) (by omega), fun k _ => by rw [b5 _ (by omega), rr _ (by omega) (by omega)], fun k _ => by rw [b5 _ (by omega), rr _ (by omega) (by omega)], fun a q1 q2 => by rw [b8 a (by omega) (by omega) (by omega)]; exact im a (by omega), fun a q1 q2 => ⟨by rw [b2]; exact tt a (by omega), by rw [b5 a (by omega)]; exact rr a (by omega) (by omega), by rw [b8 a (by omega) (by omega) (by omega)]; exact im a (by omega), by rw [b4]; exact lm a (by omega)⟩⟩ (fun a q => if_neg (by omega)) (fun _ _ _ _ _ _ _ _ _ z => z) (by rw [b5 _ (by omega), rr _ (by omega) (by omega)]) (by rw [b5 _ (by omega)]; exact r33k) (fun k' q => by rw [b5 _ (by omega)]; exact r33 k' q) ?_ (fun a z => by rw [b8 a (by omega) (by omega) (by omega)]; exact im a (by omega)) (by rw [b5 _ (by omega), rr _ (by omega) (by omega)]) ⟨by omega, by rw [b3, n5]; omega⟩ (fun a q1 q2 => if_pos q1) (by unfold ScS at hsn5 ⊢; rw [b2, b6 5 (by decide), b6 6 (by decide)]; exact hsn5) (b7.trans c0.symm) (fun i q1 q2 => by rw [b9 i q1 q2, im _ (by omega)]) (fun j hj => by rw [(b10 j hj).1, (b10 j hj).2, im _ (by omega), im _ (by omega)]; exact ⟨rfl, rfl⟩) e0 er e82 e82' e81
      · obtain ⟨U', c', t', hc'⟩ := hO.1.cur
        refine ⟨h', ?_, ⟨_, R, hO.1⟩, hO.2⟩
        rw [a2, on_n, u_ob, u_nn, u_nn, u_ck (by rw [t_newo (by omega)]; exact hB.1.1), r_newo (by omega), hB.1.2.1, u_ob, u_ck (by rw [t_newo (by omega)]; exact hB.1.2.2.1), r_newo (by omega), c0, u_ob, i1, u_ob, u_ck i4.1, u_ck (ixb_e (by rw [(i3 _ (by omega)).1]; exact g33) hk (by decide)), u_nn]
        exact jk_e (h := h5) hk (by rw [tt _ (by omega)]; exact hB.1.1) (by rw [rr _ (by omega) (by omega)]; exact g6) (by rw [tt _ (by omega)]; exact g33) r33k (by rw [rr _ (by omega) (by omega)]; exact hB.1.2.1) hsn5.1 b1 hc'.1
      · intro k' hk' q e
        rcases hR.2.2.2.2.2 k' hk' with ⟨z1, z2⟩ | ⟨z1, s, U2, z2, z3, z4, -⟩
        · rw [z2] at e; cases e
        · rw [z2] at e; cases e; omega
    · obtain ⟨c2, t2, s1, -⟩ := a7
      obtain ⟨h', b1, b2, b3, b4, b5, b6, b7, b8, b9, b10⟩ := c_scopy (G := G) hss s1 c0 (by omega) (by omega) (by omega) (by omega)
      have hO := hR.im (h1 := h') (w2 := w') (own' := own) (Ex := fun a => s ≤ a ∧ a < s + 3) hk (fun a z => by rw [a5.1 a z.1 z.2]; exact s1.1) ⟨by rw [b3]; exact Nat.le_refl _, fun a q1 q2 => ⟨by rw [b2], fun z => ⟨b5 a (by omega), fun _ => b8 a (by omega) (by omega) (by omega)⟩⟩⟩ ⟨fun a _ _ => by rw [b2], fun a _ _ _ q _ _ => b5 a (by omega), fun k _ => by rw [b5 _ (by omega)], fun k _ => by rw [b5 _ (by omega)], fun a q1 q2 => b8 a (by omega) (by omega) (by omega), fun a q1 q2 => ⟨by rw [b2], b5 a (by omega), b8 a (by omega) (by omega) (by omega), by rw [b4]⟩⟩ (fun _ _ => rfl) (fun k' s' q0 q1 q2 q3 a z1 z2 z => a5.2 k' q0 q1 (by rw [q2, ← q3 a z1 z2, a5.1 a z.1 z.2])) (b5 _ (by omega)) (by rw [b5 _ (by omega)]; exact a2) (fun k' _ => by rw [b5 _ (by omega)]) a5.2 (fun a z => b8 a (by omega) (by omega) (by omega)) (by rw [b5 _ (by omega)]) ⟨a3, by rw [b3]; exact a4⟩ a5.1 (by unfold ScS at s1 ⊢; rw [b2, b6 5 (by decide), b6 6 (by decide)]; exact s1) (b7.trans c0.symm) b9 b10 e0 er e82 e82' e81
      obtain ⟨U', c', t', hc'⟩ := hO.1.cur
      exact ⟨h', by rw [a2, on_s]; exact jk_e hk hB.1.1 g6 g33 a2 hB.1.2.1 s1.1 b1 hc'.1, ⟨own, R, hO.1⟩, hO.2⟩
  obtain ⟨h', m1, m2, m3⟩ := main
  exact ⟨w'.1 1 10, h', w', m1, rfl, m2, m3⟩
end
