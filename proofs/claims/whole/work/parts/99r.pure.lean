/-! PURE 99r: the class's new train begins. -/
section
variable {G : GG} {X t N k n j p q c : Nat} {T : Nat → Nat} {h h' h1 h2 : AH} {w w' w1 w2 wr wr' wq : MS} {v : VV}
theorem nwt_N (hN : NwT w wq) (h6 : w.1 20 6 = nI n) (hn : n ≤ 8) : sN wq.1 = n := by
  unfold sN
  rw [hN.1 6 (by decide), h6]; exact nI_clamp (by omega)
theorem nwt_kv (hN : NwT w wq) {i : Nat} (hi : i < 7) : kv wq.1 i = w.1 20 2 := by
  unfold kv
  split
  · exact hN.2.2.2.1
  · exact hN.2.2.2.2.2.2.2.1 i hi
theorem nwt_St (hN : NwT w wq) (hd : TD h X t w) (h0 : w.1 20 0 = 1) : St wq.1 := by
  obtain ⟨s, n, a, b, c, g, u, q⟩ := hd
  obtain ⟨c1, c2, c3, c4, c5, c6, c7, c8, c9⟩ := c
  have eN := nwt_N hN c4 c1
  have eT : sT wq.1 = a := by unfold sT; rw [hN.1 8 (by decide), c5]; exact nI_clamp (by omega)
  have eC : sC wq.1 = b := by unfold sC; rw [hN.1 9 (by decide), c6]; exact nI_clamp (by omega)
  obtain ⟨l, hl1, hl2⟩ := bd_nI (b := 6) s.2.2.2.2.2.1
  have eL : sL wq.1 = l := by unfold sL; rw [hN.1 3 (by decide), hl2]; exact nI_clamp (by omega)
  have R8 := hN.2.2.2.2.2.2.2.2.1
  have R5 := hN.2.2.2.2.2.2.2.2.2.1
  have R9 := hN.2.2.2.2.2.2.2.2.2.2.1
  have z10 := hN.2.1
  refine ⟨Or.inr (by rw [hN.1 0 (by decide)]; exact h0), ⟨by rw [eN, hN.1 6 (by decide)]; exact c4, by omega⟩, ⟨by rw [eT, hN.1 8 (by decide)]; exact c5, by omega⟩, ⟨by rw [eC, hN.1 9 (by decide)]; exact c6, by omega⟩, ⟨by rw [eL, hN.1 3 (by decide)]; exact hl2, by omega⟩, by rw [z10]; unfold bd; decide, by rw [hN.2.2.1]; exact s.2.1, by rw [hN.2.2.2.2.1]; exact s.2.2.2.2.2.2.2.1, by rw [hN.1 1 (by decide)]; exact s.2.1, by rw [hN.1 2 (by decide)]; exact s.2.2.2.1, fun i hi => by rw [nwt_kv hN hi]; exact s.2.2.2.1, fun i hi => ?_, fun i hi => ?_, fun i hi => ?_, fun i r h1 h2 h3 => ?_⟩
  · rw [eT] at hi
    rw [R5 13 (by decide) (by decide) i (by omega), R5 14 (by decide) (by decide) i (by omega)]
    exact (u.1 i hi).2.2
  · rw [eC] at hi
    rw [R5 17 (by decide) (by decide) i (by omega)]
    exact (u.2 i hi).2.2.2
  · rw [eN] at hi
    have r9 := R9 i (by omega)
    obtain ⟨-, y1, y2, y3, y4, y5, y6, y7⟩ := q i hi
    unfold SP
    rw [R8 3 (by decide) (by decide) i (by omega), R8 4 (by decide) (by decide) i (by omega), R8 5 (by decide) (by decide) i (by omega), R8 6 (by decide) (by decide) i (by omega), R8 7 (by decide) (by decide) i (by omega), R8 8 (by decide) (by decide) i (by omega), r9.1, r9.2.1, r9.2.2.1]
    exact ⟨y1, y2, y3, y4, y5, y6, y7, ⟨by decide, by decide⟩, Or.inl rfl, fun z => absurd rfl z, fun z => absurd z (by decide), ⟨by decide, by decide⟩⟩
  · rw [eN] at h1
    rw [(R9 i (by omega)).1] at h3; exact absurd rfl h3
/-- the knob, always as it is at the start -/
def kn (k j : Nat) : Nat := k * ((4 ^ (j + 1) - 1) / 3)
theorem kn_s : ∀ k : Nat, k < 4 → ∀ j : Nat, j < 6 → ((nI (kn k j) <<< ((2 : Int32) &&& 31)) ||| (nI (kn k j) &&& (3 : Int32))) &&& (16383 : Int32) = nI (kn k (j + 1)) := by decide
theorem kn_e : ∀ k : Nat, k < 4 → kn k 6 < 16384 ∧ ∀ i : Nat, i < 7 → kn k 6 / 4 ^ i % 4 = k := by decide
theorem kn_loop (hk : k < 4) : ∀ (d j m : Nat), j + d = 6 → d < m → lq2 (F_X11_alwaysKnob_4 G) m (nI (kn k j)) (nI j) h = some (nI (kn k 6), h)
  | 0, j, m + 1, e, _ => by
    have : j = 6 := by omega
    subst this
    show F_X11_alwaysKnob_4 G _ _ _ _ = _
    unfold F_X11_alwaysKnob_4
    rw [if_pos (show (6 : Int32) ≤ nI 6 by decide)]
  | d + 1, j, m + 1, e, hm => by
    show F_X11_alwaysKnob_4 G _ _ _ _ = _
    unfold F_X11_alwaysKnob_4 f_X11_aMileOlder
    rw [if_neg (show ¬ (6 : Int32) ≤ nI j from nI_ge (b := 6) (by omega) (by omega)), u_cb, kn_s k hk j (by omega), nI_1, u_nn]
    exact kn_loop hk d (j + 1) m (by omega) (by omega)
theorem c_knob (hk : k < 4) : f_X11_alwaysKnob G (nI k) h = some (nI (kn k 6), h) := by
  have : kn k 0 = k := by unfold kn; omega
  have := kn_loop (G := G) (h := h) hk 6 0 bN rfl (bN_gt (by decide))
  rw [show kn k 0 = k by unfold kn; omega] at this
  exact this
theorem bg_loop (hn : n ≤ 8) (hct : t + 15 ≤ c) : ∀ (d q m : Nat) (h : AH), q + d = n → d < m → CaS h c → m_r h c 0 = some t → TrS h t → m_i h t 5 = nI n → ∃ h', (∀ K, lq1 (F_X0_begin_46 G c K) m (nI q) h = K h') ∧ Fr (fun b => b = c + 4) h h' ∧ ∀ i, m_i h' (c + 4) i = if q ≤ i ∧ i < n then m_i h (t + 7 + i) 5 else m_i h (c + 4) i
  | 0, q, m + 1, h, e, _, hC, h0, hT, h5 => by
    refine ⟨h, fun K => ?_, Fr.rf, fun i => by rw [if_neg (by omega)]⟩
    show F_X0_begin_46 G c K _ _ _ = _
    unfold F_X0_begin_46
    rw [u_ck hC.1, h0, u_ob, u_ck hT.1, h5, if_pos (nI_le (by omega) (by omega))]
  | d + 1, q, m + 1, h, e, hm, hC, h0, hT, h5 => by
    have hq8 : q < 8 := by omega
    have rq := hT.2.2.2.2.2.2.2.2.2 q hq8
    have e5 : m_i (m_si h (c + 4) q (m_i h (t + 7 + q) 5)) t 5 = nI n := by rw [m_i_sb (by omega)]; exact h5
    obtain ⟨h', a1, a2, a3⟩ := bg_loop hn hct d (q + 1) m (m_si h (c + 4) q (m_i h (t + 7 + q) 5)) (by omega) (by omega) hC h0 hT e5
    refine ⟨h', fun K => ?_, Fr.s1.tr a2, fun i => ?_⟩
    · show F_X0_begin_46 G c K _ _ _ = _
      unfold F_X0_begin_46
      rw [u_ck hC.1, h0, u_ob, u_ck hT.1, h5, if_neg (nI_ge (by omega) (by omega)), hC.2.2.2.2.1, u_ob, u_ob, u_ck hT.1, hT.2.1, u_ob, u_ck (ixb_e hT.2.2.2.2.2.2.2.1 hq8 (by decide)), nI_clamp (by omega), rq.1, u_ob, u_ck rq.2, u_ck (ixb_e hC.2.2.2.2.2.2.2.2 hq8 (by decide)), u_nn, nI_1, u_nn]
      exact a1 K
    · rw [a3]
      have ne : i < n → m_i (m_si h (c + 4) q (m_i h (t + 7 + q) 5)) (t + 7 + i) 5 = m_i h (t + 7 + i) 5 := fun z => by rw [m_i_sb (by omega)]
      by_cases z : i = q
      · subst z
        rw [if_neg (show ¬ (i + 1 ≤ i ∧ i < n) by omega), m_i_ss, if_pos (show i ≤ i ∧ i < n by omega)]
      · by_cases y : q ≤ i ∧ i < n
        · rw [if_pos (show q + 1 ≤ i ∧ i < n by omega), if_pos y, ne y.2]
        · rw [if_neg (show ¬ (q + 1 ≤ i ∧ i < n) by omega), if_neg y, m_i_sj z]
end
