/-! PURE 84: seats. -/
section
variable {G : GG} {own : Nat → Nat} {R X c t U : Nat} {h h1 h' : AH} {w w1 w2 : MS} {v v' v0 : VV}
theorem c_isAboardN (hB : Bs h X c t v) (hS : St v) {x : Int32} (hx : ¬ (0 ≤ x ∧ x ≤ v 1 6 - 1)) : f_X0_isAboard G c x h = some (0, h) := by
  unfold f_X0_isAboard
  rw [u_ck hB.1.2.2.2.2.1, hB.1.2.2.2.2.2.1, u_ob, u_ck hB.1.2.2.2.2.2.2, c_hasPersonB hB hS, u_cb, if_neg hx, if_pos rfl]
theorem c_takes (hC : Cab h c t v) (hS : St v) {q : Nat} (hq : q < sN v) (s : Int32) : f_X0_takes G c (nI q) s h = some (if s < 4 ∨ fro v q = 0 then 1 else 0, h) := by
  unfold f_X0_takes
  by_cases h1 : s < 4
  · rw [if_pos h1, if_pos (Or.inl h1)]
  · rw [if_neg h1, u_ck (cab_t hC), cab_0 hC, u_ob, u_ck (tr_t hC), tr_6 hC, u_ob, u_ck (tr_x1 hC hS hq), qc hS hq, tr_rq hC hS hq, u_ob, u_ck (tr_tq hC hS hq), tr_q6 hC hq]
    by_cases h2 : fro v q = 0
    · rw [if_pos h2, if_pos (Or.inr h2)]
    · rw [if_neg h2, if_neg (fun e => e.elim h1 h2)]
/-- two change their seats -/
theorem Sta.swap {q r : Nat} (hS : Sta w.1) (hq : q < sN w.1) (hr : r < sN w.1) (hne : q ≠ r) (aq : w.1 10 q = 1) (ar : w.1 10 r = 1) (m1 : w.1 9 r < 4 ∨ fro w.1 q = 0) (m2 : w.1 9 q < 4 ∨ fro w.1 r = 0) : Sta (w_si (w_si w 9 q (w.1 9 r)) 9 r (w.1 9 q)).1 := by
  have er : ∀ k, k ≠ 9 → (w_si (w_si w 9 q (w.1 9 r)) 9 r (w.1 9 q)).1 k = w.1 k := fun k hk => by rw [w_si_r hk, w_si_r hk]
  have e9 : ∀ j, (w_si (w_si w 9 q (w.1 9 r)) 9 r (w.1 9 q)).1 9 j = if j = r then w.1 9 q else if j = q then w.1 9 r else w.1 9 j := fun j => by
    by_cases z : j = r
    · rw [if_pos z, z, w_si_s]
    · rw [if_neg z, w_si_j z]
      by_cases z2 : j = q
      · rw [if_pos z2, z2, w_si_s]
      · rw [if_neg z2, w_si_j z2]
  have nlt : ∀ s : Int32, (4 : Int32) ≤ s → ¬ s < 4 := fun s h1 h2 => by rw [I_le] at h1; rw [I_lt] at h2; omega
  refine ⟨hS.1.dyn (fun k _ _ => er k (by omega)) (fun j hj => ?_) (fun a b ha hb h3 h4 => ?_), ?_, ?_⟩
  · have dj := hS.1.dy hj
    have dq := hS.1.dy hq
    have dr := hS.1.dy hr
    unfold Dy at dj dq dr ⊢
    rw [er 8 (by decide), er 10 (by decide), er 11 (by decide), e9]
    by_cases z : j = r
    · subst z
      rw [if_pos rfl]
      exact ⟨dj.1, dq.2.1, dj.2.2.1, fun _ => ar, fun z => m2.resolve_left (nlt _ z), dj.2.2.2.2.2⟩
    · rw [if_neg z]
      by_cases z2 : j = q
      · subst z2
        rw [if_pos rfl]
        exact ⟨dj.1, dr.2.1, dj.2.2.1, fun _ => aq, fun z => m1.resolve_left (nlt _ z), dj.2.2.2.2.2⟩
      · rw [if_neg z2]; exact dj
  · rw [e9] at h3 h4
    rw [e9] at h4
    have D := fun (a b : Nat) (ha : a < sN w.1) (hb : b < sN w.1) (h3 : w.1 9 a ≠ -1) (h4 : w.1 9 a = w.1 9 b) => st_D hS.1 ha hb h3 h4
    by_cases a1 : a = r
    · rw [if_pos a1] at h3 h4
      by_cases b1 : b = r
      · rw [a1, b1]
      · rw [if_neg b1] at h4
        by_cases b2 : b = q
        · rw [if_pos b2] at h4; exact absurd (D q r hq hr h3 h4) hne
        · rw [if_neg b2] at h4; exact absurd (D q b hq hb h3 h4).symm b2
    · rw [if_neg a1] at h3 h4
      by_cases a2 : a = q
      · rw [if_pos a2] at h3 h4
        by_cases b1 : b = r
        · rw [if_pos b1] at h4; exact absurd (D r q hr hq h3 h4).symm hne
        · rw [if_neg b1] at h4
          by_cases b2 : b = q
          · rw [a2, b2]
          · rw [if_neg b2] at h4; exact absurd (D r b hr hb h3 h4).symm b1
      · rw [if_neg a2] at h3 h4
        by_cases b1 : b = r
        · rw [if_pos b1] at h4; exact absurd (D a q ha hq h3 h4) a2
        · rw [if_neg b1] at h4
          by_cases b2 : b = q
          · rw [if_pos b2] at h4; exact absurd (D a r ha hr h3 h4) a1
          · rw [if_neg b2] at h4; exact D a b ha hb h3 h4
  · have := hS.2.1
    unfold Ab sN at this ⊢
    rw [er 1 (by decide), er 4 (by decide), er 5 (by decide), er 10 (by decide)]; exact this
  · have := hS.2.2
    unfold Cr sN at this ⊢
    rw [er 1 (by decide), er 11 (by decide)]; exact this
theorem call_seats (x y : Int32) : Call X (f_X11_seats G X x y) (p_X12_seats G x y) := by
  intro h w ⟨own, R, hR⟩
  obtain ⟨U, c, t, hc⟩ := hR.cur
  have hB := hc.1
  have hSt := hc.2.1
  have hS := hSt.1
  have no : (∃ r, f_X0_canChange G c x y h = some (0, h) ∧ p_X12_seats G x y w = some (r, w) ∧ r = 0) → ∃ r h' w', f_X11_seats G X x y h = some (r, h') ∧ p_X12_seats G x y w = some (r, w') ∧ Rel h' X w' ∧ Kp X h h' := by
    rintro ⟨r, e1, e2, rfl⟩
    refine ⟨0, h, w, ?_, e2, ⟨own, R, hR⟩, Kp.rf⟩
    unfold f_X11_seats
    rw [u_ck hB.1.1, hB.1.2.1, u_ob, u_ck hB.1.2.2.1, hB.1.2.2.2.1, u_ob, u_ck hB.1.2.2.2.2.1, e1, u_cb, if_pos rfl]
  by_cases hxy : x = y
  · subst hxy
    refine no ⟨0, ?_, ?_, rfl⟩
    · unfold f_X0_canChange; rw [if_pos rfl]
    · unfold p_X12_seats
      rw [p_isPerson, u_cw, p_isPerson, u_cw]
      by_cases h1 : 0 ≤ x ∧ x ≤ w.1 1 6 - 1
      · rw [if_pos h1, if_neg n10, if_neg n10, if_pos rfl]
      · rw [if_neg h1, if_pos rfl]
  by_cases h1 : 0 ≤ x ∧ x ≤ w.1 1 6 - 1
  · obtain ⟨q, hq, rfl⟩ := in_N' hS h1
    have told : w.1 1 0 = 1 := (told01 hS).resolve_left (fun e => by rw [told_N hS e] at hq; omega)
    have hC := (hc.2.2.1.cab told).1
    by_cases h2 : 0 ≤ y ∧ y ≤ w.1 1 6 - 1
    · obtain ⟨r, hr, rfl⟩ := in_N' hS h2
      have hne : q ≠ r := fun e => hxy (by rw [e])
      by_cases a1 : w.1 10 q = 0
      · refine no ⟨0, ?_, ?_, rfl⟩
        · unfold f_X0_canChange
          rw [if_neg hxy, u_ck (cab_t hC), c_isAboard hC hS hSt.2.1 hq, u_cb, if_pos a1]
        · unfold p_X12_seats
          rw [p_isPerson, u_cw, if_pos h1, if_neg n10, p_isPerson, u_cw, if_pos h2, if_neg n10, if_neg hxy, p_rides hS hq, u_cw, if_pos a1]
      by_cases a2 : w.1 10 r = 0
      · refine no ⟨0, ?_, ?_, rfl⟩
        · unfold f_X0_canChange
          rw [if_neg hxy, u_ck (cab_t hC), c_isAboard hC hS hSt.2.1 hq, u_cb, if_neg a1, u_ck (cab_t hC), c_isAboard hC hS hSt.2.1 hr, u_cb, if_pos a2]
        · unfold p_X12_seats
          rw [p_isPerson, u_cw, if_pos h1, if_neg n10, p_isPerson, u_cw, if_pos h2, if_neg n10, if_neg hxy, p_rides hS hq, u_cw, if_neg a1, p_rides hS hr, u_cw, if_pos a2]
      have one1 : w.1 10 q = 1 := (ab01 hS hq).resolve_left a1
      have one2 : w.1 10 r = 1 := (ab01 hS hr).resolve_left a2
      -- the class
      have cc : f_X0_canChange G c (nI q) (nI r) h = some (if (w.1 9 q = -1 ∧ w.1 9 r = -1) then 0 else if ¬ (w.1 9 r < 4 ∨ fro w.1 q = 0) then 0 else if ¬ (w.1 9 q < 4 ∨ fro w.1 r = 0) then 0 else 1, h) := by
        unfold f_X0_canChange
        rw [if_neg hxy, u_ck (cab_t hC), c_isAboard hC hS hSt.2.1 hq, u_cb, if_neg a1, u_ck (cab_t hC), c_isAboard hC hS hSt.2.1 hr, u_cb, if_neg a2, u_ck (cab_t hC), cab_6 hC, u_ob, u_ck (cab_x1 hC hS hq), u_nn, u_nn, qc hS hq, qc hS hr, cab_v1 hC hq]
        have body : (ob (some (c + 1)) fun b17 => ck (ixb h b17 .int (nI r) = true) <| cb (f_X0_takes G c (nI q) (m_i h b17 r) h) fun r22 h20 => if r22 = 0 then (some ((0 : Int32), h20)) else ck (m_t h20 c = .inl 0) <| ob (m_r h20 c 6) fun b25 => ck (ixb h20 b25 .int (nI q) = true) <| cb (f_X0_takes G c (nI r) (m_i h20 b25 q) h20) fun r30 h28 => if r30 = 0 then (some ((0 : Int32), h28)) else some ((1 : Int32), h28)) = some (if ¬ (w.1 9 r < 4 ∨ fro w.1 q = 0) then 0 else if ¬ (w.1 9 q < 4 ∨ fro w.1 r = 0) then 0 else 1, h) := by
          rw [u_ob, u_ck (cab_x1 hC hS hr), cab_v1 hC hr, c_takes hC hS hq, u_cb]
          by_cases m1 : w.1 9 r < 4 ∨ fro w.1 q = 0
          · rw [if_pos m1, if_neg n10, u_ck (cab_t hC), cab_6 hC, u_ob, u_ck (cab_x1 hC hS hq), cab_v1 hC hq, c_takes hC hS hr, u_cb, if_neg (not_not_intro m1)]
            by_cases m2 : w.1 9 q < 4 ∨ fro w.1 r = 0
            · rw [if_pos m2, if_neg n10, if_neg (not_not_intro m2)]
            · rw [if_neg m2, if_pos rfl, if_pos m2]
          · rw [if_neg m1, if_pos rfl, if_pos m1]
        by_cases s1 : w.1 9 q = -1
        · rw [if_pos s1, u_ob, u_ck (cab_x1 hC hS hr), cab_v1 hC hr]
          by_cases s2 : w.1 9 r = -1
          · rw [if_pos s2, if_pos ⟨s1, s2⟩]; rfl
          · rw [if_neg s2, if_neg (show ¬ (w.1 9 q = -1 ∧ w.1 9 r = -1) from fun z => s2 z.2)]
            dsimp only
            rw [if_neg n10]; exact body
        · rw [if_neg s1, if_neg (show ¬ (w.1 9 q = -1 ∧ w.1 9 r = -1) from fun z => s1 z.1)]
          dsimp only
          rw [if_neg n10]; exact body
      have pc : ∀ (K : Option (Int32 × MS)), (∀ w1, p_X12_keepsAct G w = some w1 → w1.1 9 = w.1 9 → K = some (1, w_si (w_si w1 9 q (w1.1 9 r)) 9 r (w1.1 9 q))) → (∃ w1, p_X12_keepsAct G w = some w1 ∧ w1.1 9 = w.1 9) → p_X12_seats G (nI q) (nI r) w = if (w.1 9 q = -1 ∧ w.1 9 r = -1) then some (0, w) else if ¬ (w.1 9 r < 4 ∨ fro w.1 q = 0) then some (0, w) else if ¬ (w.1 9 q < 4 ∨ fro w.1 r = 0) then some (0, w) else K := by
        intro K hK ⟨w1, k1, k2⟩
        unfold p_X12_seats
        rw [p_isPerson, u_cw, if_pos h1, if_neg n10, p_isPerson, u_cw, if_pos h2, if_neg n10, if_neg hxy, p_rides hS hq, u_cw, if_neg a1, p_rides hS hr, u_cw, if_neg a2, u_ck (q8 hS hq), u_nn, qc hS hq, qc hS hr]
        have body : (ck (ixn 8 (nI r) = true) <| cw (p_X12_maySit G (nI q) (w.1 9 r) w) fun r22 w20 => if r22 = 0 then (some ((0 : Int32), w20)) else ck (ixn 8 (nI q) = true) <| cw (p_X12_maySit G (nI r) (w20.1 9 q) w20) fun r27 w25 => if r27 = 0 then (some ((0 : Int32), w25)) else ob (p_X12_keepsAct G w25) fun w29 => ck (ixn 8 (nI q) = true) <| nn (w29.1 9 q) fun x32 => ck (ixn 8 (nI r) = true) <| ck (ixn 8 (nI q) = true) <| nn (w_si w29 9 q (w29.1 9 r)) fun w35 => ck (ixn 8 (nI r) = true) <| nn (w_si w35 9 r x32) fun w37 => some ((1 : Int32), w37)) = if ¬ (w.1 9 r < 4 ∨ fro w.1 q = 0) then some (0, w) else if ¬ (w.1 9 q < 4 ∨ fro w.1 r = 0) then some (0, w) else K := by
          rw [u_ck (q8 hS hr), p_maySit hS hq, u_cw]
          by_cases m1 : w.1 9 r < 4 ∨ fro w.1 q = 0
          · rw [if_pos m1, if_neg n10, u_ck (q8 hS hq), p_maySit hS hr, u_cw, if_neg (not_not_intro m1)]
            by_cases m2 : w.1 9 q < 4 ∨ fro w.1 r = 0
            · rw [if_pos m2, if_neg n10, if_neg (not_not_intro m2), k1, u_ob, u_ck (q8 hS hq), u_nn, u_ck (q8 hS hr), u_ck (q8 hS hq), u_nn, u_ck (q8 hS hr), u_nn]
              exact (hK w1 k1 k2).symm
            · rw [if_neg m2, if_pos rfl, if_pos m2]
          · rw [if_neg m1, if_pos rfl, if_pos m1]
        by_cases s1 : w.1 9 q = -1
        · rw [if_pos s1, u_ck (q8 hS hr)]
          by_cases s2 : w.1 9 r = -1
          · rw [if_pos s2, if_pos ⟨s1, s2⟩]
          · rw [if_neg s2, if_neg (show ¬ (w.1 9 q = -1 ∧ w.1 9 r = -1) from fun z => s2 z.2)]
            exact body
        · rw [if_neg s1, if_neg (show ¬ (w.1 9 q = -1 ∧ w.1 9 r = -1) from fun z => s1 z.1)]
          exact body
      obtain ⟨h', w1, f1, k1, hC', hS', epw, er, x1, x2, x3, -, -, -, -, -, -, fin⟩ := act_both (G := G) hR hc told
      have e9 := er 9 (by decide) (by decide)
      have pcK := pc (some (1, w_si (w_si w1 9 q (w1.1 9 r)) 9 r (w1.1 9 q))) (fun w' k' _ => by rw [k1] at k'; cases k'; rfl) ⟨w1, k1, e9⟩
      by_cases s : w.1 9 q = -1 ∧ w.1 9 r = -1
      · refine no ⟨0, by rw [cc, if_pos s], by rw [pcK, if_pos s], rfl⟩
      by_cases m1 : w.1 9 r < 4 ∨ fro w.1 q = 0
      · by_cases m2 : w.1 9 q < 4 ∨ fro w.1 r = 0
        · rw [if_neg s, if_neg (not_not_intro m1), if_neg (not_not_intro m2)] at cc pcK
          have hqN : q < sN w1.1 := by rw [pwN epw.p3]; exact hq
          have hrN : r < sN w1.1 := by rw [pwN epw.p3]; exact hr
          have hf : ∀ j, fro w1.1 j = fro w.1 j := fun j => pwfro epw.p3 j
          have hS2 := hS'.swap hqN hrN hne (by rw [er 10 (by decide) (by decide)]; exact one1) (by rw [er 10 (by decide) (by decide)]; exact one2) (by rw [e9, hf]; exact m1) (by rw [e9, hf]; exact m2)
          have eN : sN (w_si w1 9 q (w1.1 9 r)).1 = sN w1.1 := by unfold sN; rw [w_si_r (by decide)]
          have hC1 := hC'.si (st_N8 hS'.1) 9 1 q (w1.1 9 r) (by decide)
          have hC2 := hC1.si (by rw [eN]; exact st_N8 hS'.1) 9 1 r (w1.1 9 q) (by decide)
          obtain ⟨g1, g2⟩ := fin _ (w_si (w_si w1 9 q (w1.1 9 r)) 9 r (w1.1 9 q)) ((Fr.si (a := m_n h + 1) (k := q) (v := w1.1 9 r) (Or.inl (by omega))).tr (Fr.si (a := m_n h + 1) (k := r) (v := w1.1 9 q) (Or.inl (by omega)))) (fun k _ _ _ q4 _ _ _ _ => by rw [w_si_r q4, w_si_r q4]) (fun i hi => by rw [w_si_r (by decide), w_si_r (by decide)]) hC2 hS2
          refine ⟨1, _, _, ?_, pcK, g1, g2⟩
          unfold f_X11_seats f_X0_change
          rw [u_ck hB.1.1, hB.1.2.1, u_ob, u_ck hB.1.2.2.1, hB.1.2.2.2.1, u_ob, u_ck hB.1.2.2.2.2.1, cc, u_cb, if_neg n10, u_ck hB.1.1, hB.1.2.1, u_ob, u_ck hB.1.2.2.1, f1, u_cb, u_ck (cab_t hC'), u_ck (cab_t hC'), cab_6 hC', u_ob, u_ck (cab_x1 hC' hS'.1 hqN), u_nn, u_ob, u_ob, u_ck (cab_x1 hC' hS'.1 hrN), u_ck (cab_x1 hC' hS'.1 hqN), u_nn, qc hS hq, qc hS hr, cab_v1 hC' hqN, cab_v1 hC' hrN, m_r_si, cab_6 hC', u_ob, u_ck (by rw [ixb_si]; exact cab_x1 hC' hS'.1 hrN), u_nn, u_ob]
        · refine no ⟨0, by rw [cc, if_neg s, if_neg (not_not_intro m1), if_pos m2], by rw [pcK, if_neg s, if_neg (not_not_intro m1), if_pos m2], rfl⟩
      · refine no ⟨0, by rw [cc, if_neg s, if_pos m1], by rw [pcK, if_neg s, if_pos m1], rfl⟩
    · refine no ⟨0, ?_, ?_, rfl⟩
      · unfold f_X0_canChange
        rw [if_neg hxy, u_ck hB.1.2.2.2.2.1, c_isAboard hC hS hSt.2.1 hq, u_cb]
        by_cases a1 : w.1 10 q = 0
        · rw [if_pos a1]
        · rw [if_neg a1, u_ck (cab_t hC), c_isAboardN hB hS h2, u_cb, if_pos rfl]
      · unfold p_X12_seats
        rw [p_isPerson, u_cw, if_pos h1, if_neg n10, p_isPerson, u_cw, if_neg h2, if_pos rfl]
  · refine no ⟨0, ?_, ?_, rfl⟩
    · unfold f_X0_canChange
      rw [if_neg hxy, u_ck hB.1.2.2.2.2.1, c_isAboardN hB hS h1, u_cb, if_pos rfl]
    · unfold p_X12_seats
      rw [p_isPerson, u_cw, if_neg h1, if_pos rfl]
end
