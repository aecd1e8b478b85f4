/-! PURE 99v: a value, on both sides: the whole of it. -/
section
variable {G : GG} {X t N k n j p r c E C W : Nat} {T : Nat → Nat} {w w' w1 w2 wr wr' wr1 : MS} {f : Int32} {wl : List (List Nat)}
theorem sy_dig (hl20 : wl.length ≤ 20) (hT : TxW N T w) (h : syv wl N T p = 256) : p < N ∧ isD (T p) = true := by
  unfold syv at h
  by_cases z : p < N
  · have hb := (hT.2.2 p z).2.1
    rw [if_pos z] at h
    by_cases a : isD (T p) = true
    · exact ⟨z, a⟩
    · rw [if_neg a] at h
      by_cases b : isL (T p) = true
      · rw [if_pos b] at h
        obtain ⟨e, e1, e2, e3⟩ := wcd_c (N := N) (T := T) (p := p) hl20
        rw [e3] at h
        exact absurd ((nI_eq (a := e) (b := 256) (by omega) (by decide)).mp h) (by omega)
      · rw [if_neg b] at h
        by_cases d : (T p = 60 ∨ T p = 62) ∧ p + 1 < N ∧ T (p + 1) = 61
        · rw [if_pos d] at h
          by_cases e : T p = 60
          · rw [if_pos e] at h; exact absurd h (by decide)
          · rw [if_neg e] at h; exact absurd h (by decide)
        · rw [if_neg d] at h; exact absurd ((nI_eq (a := T p) (b := 256) (by omega) (by decide)).mp h) (by omega)
  · rw [if_neg z] at h; exact absurd h (by decide)
/-- after a value -/
def VlE (N : Nat) (T : Nat → Nat) (r c E C : Nat) (wr w : MS) (k : Nat) (F P : Option MS) : Prop := ∃ wr' w' k' f', F = some wr' ∧ P = some w' ∧ Syn wlR N T wr' w' k' f' ∧ FrR r c E wr w wr' w' ∧ (∃ W, wr'.1 6 2 = nI W ∧ W ≤ 400 ∧ E + c ≤ W) ∧ (f' = 0 → k' = k + 1 ∧ k < tK N T ∧ C < 60 ∧ Gd r c wr' w' (E + 1) (C + 1) ∧ ((ent w'.1 r E).1 = 0 ∨ (ent w'.1 r E).1 = 1) ∧ EV (ent w'.1 r E) ∧ wr'.1 7 (E + c) = encI (ent w'.1 r E))
theorem val_both (hG : GI G) (hs : Syn wlR N T wr w k 0) (hg : Gd r c wr w E C) (h41 : w.1 0 41 = 13) (hr : w.1 0 35 = nI r ∧ r < 6) (hE : E < 290) (hc : c ≤ 13) : VlE N T r c E C wr w k (s_X3_readValue G wr) (p_X12_value G w) := by
  obtain ⟨hK, hXc, hC, hTw, hW⟩ := id hs
  have hN := hTw.1
  have bl := blanks_W (G := G) hTw hW
  have tle := tp_le (N := N) (T := T) k
  have l20 : wlR.length ≤ 20 := by decide
  have hTb : TxW N T (w_si w 0 33 (nI (tp N T k))) := hTw.s33 (by decide)
  have f33 : (w_si w 0 33 (nI (tp N T k))).1 0 33 = nI (tp N T k) := w_si_s _ _ _ _
  have f34 : (w_si w 0 33 (nI (tp N T k))).1 0 34 = 0 := by rw [w_si_j (by decide)]; exact hW.1
  have fW : FrW w (w_si w 0 33 (nI (tp N T k))) := FrW.s (Or.inl rfl)
  have e7 : wr.1 0 7 = syv wlR N T (tp N T k) := hC.2.2.1
  have e8 : wr.1 0 8 = nuv N T (tp N T k) := hC.2.2.2.1
  have g3 := hg.2.2.1
  have c60 := hg.2.2.2.2
  have hb : ∃ W, wr.1 6 2 = nI W ∧ W ≤ 400 ∧ E + c ≤ W := ⟨E + c, hg.2.2.2.1, by omega, Nat.le_refl _⟩
  have hdig := p_isDigit' (G := G) hTb f33 (by omega)
  have cnt : ∀ q : Nat, C + 1 = q → ((w_si wr 6 3 ((wr.1 6 3) + 1)).1 6 3) = nI q := fun q hq => by rw [w_si_s, g3, nI_1, hq]
  generalize hwb : w_si w 0 33 (nI (tp N T k)) = wb at bl hTb f33 f34 fW hdig
  have b39 : wb.1 0 39 = nI C := by rw [fW.2 39 (by decide) (by decide)]; exact hg.2.1
  have b41 : wb.1 0 41 = 13 := by rw [fW.2 41 (by decide) (by decide)]; exact h41
  by_cases hd : tp N T k < N ∧ isD (T (tp N T k)) = true
  · -- a number
    have hk : k < tK N T := (tp_K hC.1).mp hd.1
    have es : wr.1 0 7 = 256 := by rw [e7]; unfold syv; rw [if_pos hd.1, if_pos hd.2]
    have en : wr.1 0 8 = dv T (tp N T k) (rn isD T (tp N T k) (N - tp N T k)) := by rw [e8]; unfold nuv; rw [if_pos hd]
    have hle2 := rn_le isD T (tp N T k) (N - tp N T k)
    obtain ⟨wd1, d1, d2, d3, d4⟩ := p_dig (G := G) hTb f33 f34 hd.1 hd.2
    have lnR : ln N T (tp N T k) = rn isD T (tp N T k) (N - tp N T k) := ln_D hd.2
    have D39 : wd1.1 0 39 = nI C := by rw [d2.2 39 (by decide) (by decide)]; exact b39
    have fWd : FrW w wd1 := fW.tr d2
    obtain ⟨w3, k1, k2, k3, k4, k5⟩ := p_count (G := G) (f := wd1.1 0 34) rfl D39 c60 (nI (tp N T k))
    have vl : p_X12_value G w = (ob (p_X12_entry G (0 : Int32) (dv T (tp N T k) (min (rn isD T (tp N T k) (N - tp N T k)) 5)) w3) fun w36 => some w36) := by
      unfold p_X12_value
      rw [bl, u_ob, f33, u_nn, hdig, u_cw, if_pos hd, if_neg n10, d1, u_cw, k1, u_ob]
    have q1 : ∀ r, r ≠ 0 → w3.1 r = w.1 r := fun r hr => by rw [k2 r hr, fWd.1 r hr]
    have q2 : ∀ j, j ≠ 33 → j ≠ 34 → j ≠ 39 → w3.1 0 j = w.1 0 j := fun j y1 y2 y3 => by rw [k3 j y2 y3, fWd.2 j y1 y2]
    have q33 : w3.1 0 33 = nI (tp N T k + rn isD T (tp N T k) (N - tp N T k)) := by rw [k3 33 (by decide) (by decide)]; exact d3
    generalize hR : rn isD T (tp N T k) (N - tp N T k) = R at en hle2 d4 lnR vl q33
    by_cases h5 : 5 < R
    · rw [if_pos h5] at d4
      have hne : wd1.1 0 34 ≠ 0 := by rw [d4]; exact flt_ne (c := 1) hN (by decide)
      rw [if_neg (fun q => hne q.1)] at k5
      have e1 : (w_si wr 6 3 ((wr.1 6 3) + 1)).1 0 8 = -1 := by rw [w_si_r (by decide), en]; exact dv_big T _ h5
      obtain ⟨wr', a1, a2, a3, a4, a5, a6⟩ := val_bad (G := G) (r := r) (c := c) (E := E) (wz := w3) hs hb (cc := 1) (by decide) q1 q2 (by rw [k5, d4]; rfl) ⟨_, q33, by omega⟩
      exact ⟨wr', w3, k, _, by rw [rv_num es, if_pos e1]; exact a2, by rw [vl, p_entryF (by rw [k5]; exact hne), u_ob], a3, a5, a6, fun z => absurd z a4⟩
    · rw [if_neg h5] at d4
      rw [d4] at k5
      obtain ⟨v, v1, v2⟩ := dv_n T (tp N T k) R (by omega) (fun j hj => rn_in isD T (tp N T k) (N - tp N T k) (tp N T k + j) (by omega) (by omega))
      have hv5 : v < 100000 := by
        have : 10 ^ R ≤ 10 ^ 5 := Nat.pow_le_pow_right (by decide) (by omega)
        omega
      rw [v2] at en
      rw [show min R 5 = R by omega, v2] at vl
      have e1 : ¬ (w_si wr 6 3 ((wr.1 6 3) + 1)).1 0 8 = -1 := by rw [w_si_r (by decide), en]; exact nI_m1 (by omega)
      by_cases z : C = 60
      · rw [if_pos ⟨rfl, z⟩] at k5
        have hne : w3.1 0 34 ≠ 0 := by rw [k5]; exact flt_ne (c := 3) hN (by decide)
        obtain ⟨wr', a1, a2, a3, a4, a5, a6⟩ := val_bad (G := G) (r := r) (c := c) (E := E) (wz := w3) hs hb (cc := 3) (by decide) q1 q2 (by rw [k5]; rfl) ⟨_, q33, by omega⟩
        exact ⟨wr', w3, k, _, by rw [rv_num es, if_neg e1, cnt 61 (by omega), if_neg (by decide)]; exact a2, by rw [vl, p_entryF hne, u_ob], a3, a5, a6, fun z => absurd z a4⟩
      · rw [if_neg (fun q => z q.2)] at k5
        obtain ⟨wr', w', a1, a2, a3, a4, a5, a6, a7⟩ := val_end (G := G) (wz := w3) (a := 0) (b := nI v) (y := nI v) hs hg hr hE hc hk (by omega) q1 q2 k4 k5 (by rw [lnR]; exact q33)
        refine ⟨wr', w', k + 1, 0, ?_, by rw [vl, a2, u_ob], a3, a4, ⟨E + 1 + c, a5.2.2.2.1, by omega, by omega⟩, fun _ => ⟨rfl, hk, by omega, a5, ?_, ?_, ?_⟩⟩
        · rw [rv_num es, if_neg e1, cnt (C + 1) rfl, if_pos (show nI (C + 1) ≤ (60 : Int32) from nI_le (b := 60) (by omega) (by omega)), w_si_r (show 0 ≠ 6 by decide), en]; exact a1
        · rw [a6]; exact Or.inl rfl
        · rw [a6]; exact Or.inl ⟨rfl, nI_pos' (by omega)⟩
        · rw [a6, a7]; rfl
  · -- no number
    rw [if_neg hd] at hdig
    have ne6 : ¬ syv wlR N T (tp N T k) = 256 := fun q => hd (sy_dig l20 hTw q)
    have vl := fun x K => v_loop hG hTb f33 b41 (by omega) x K 13 0 bN rfl (bN_gt (by decide))
    have ap := ff_app (p := fun q => wd N T (wlR.getD q []) (tp N T k)) (d := 13) (e := 5) (k := 0)
    -- a word that is no value
    have bad : (wr.1 0 7 < 300 ∨ 312 < wr.1 0 7) → ff (fun q => wd N T (wlR.getD q []) (tp N T k)) 13 0 = none → VlE N T r c E C wr w k (s_X3_readValue G wr) (p_X12_value G w) := fun hx hn => by
      rw [hn] at vl
      obtain ⟨w3, x1, x2, x3, x4⟩ := p_fails' (G := G) f34 0 (nI (tp N T k))
      rw [if_pos rfl] at x4
      have fW3 := fW.tr x2
      obtain ⟨wr', a1, a2, a3, a4, a5, a6⟩ := val_bad (G := G) (r := r) (c := c) (E := E) (wz := w3) hs hb (cc := 0) (by decide) fW3.1 (fun j y1 y2 _ => fW3.2 j y1 y2) (by rw [x4]; rfl) ⟨_, by rw [x3]; exact f33, by omega⟩
      refine ⟨wr', w3, k, _, by rw [rv_bad rfl hx (by rw [e7]; exact ne6)]; exact a2, ?_, a3, a5, a6, fun z => absurd z a4⟩
      unfold p_X12_value
      rw [bl, u_ob, f33, u_nn, hdig, u_cw, if_pos rfl]
      refine (vl _ _).trans ?_
      dsimp only
      rw [b41, if_pos (show nI 13 = (13 : Int32) from rfl), x1, u_ob]
    cases h13 : ff (fun q => wd N T (wlR.getD q []) (tp N T k)) 13 0 with
    | none =>
      refine bad ?_ h13
      rw [h13] at ap
      have ap' : ff (fun q => wd N T (wlR.getD q []) (tp N T k)) wlR.length 0 = ff (fun q => wd N T (wlR.getD q []) (tp N T k)) 5 (0 + 13) := ap
      cases h5 : ff (fun q => wd N T (wlR.getD q []) (tp N T k)) 5 (0 + 13) with
      | none =>
        rw [h5] at ap'
        obtain ⟨cc, c1, c2⟩ := sy_none (wl := wlR) hTw ap'
        rw [e7, c2]; exact Or.inl (nI_lt (b := 300) c1 (by omega))
      | some j =>
        rw [h5] at ap'
        obtain ⟨s1, s2, s3, s4, s5⟩ := sy_some (wl := wlR) wlR_pos ap'
        have := (ff_some h5).1
        have s5' : j < 18 := s5
        rw [e7, s3]; exact Or.inr (nI_lt (a := 312) (by omega) (by omega))
    | some j =>
      rw [h13] at ap vl
      have ap' : ff (fun q => wd N T (wlR.getD q []) (tp N T k)) wlR.length 0 = some j := ap
      obtain ⟨s1, s2, s3, s4, s5⟩ := sy_some (wl := wlR) wlR_pos ap'
      have hj : j < 13 := by have := (ff_some h13).2.1; omega
      have hk : k < tK N T := (tp_K hC.1).mp s1
      have es : wr.1 0 7 = nI (300 + j) := by rw [e7, s3]
      have j13 : ¬ nI j = (13 : Int32) := fun q => by have := (nI_eq (a := j) (b := 13) (by omega) (by decide)).mp q; omega
      obtain ⟨w3, k1, k2, k3, k4, k5⟩ := p_count (G := G) f34 b39 c60 (nI (tp N T k))
      have q1 : ∀ r, r ≠ 0 → (w_si w3 0 33 (nI (tp N T k + ln N T (tp N T k)))).1 r = w.1 r := fun r hr => by rw [w_si_r hr, k2 r hr, fW.1 r hr]
      have q2 : ∀ i, i ≠ 33 → i ≠ 34 → i ≠ 39 → (w_si w3 0 33 (nI (tp N T k + ln N T (tp N T k)))).1 0 i = w.1 0 i := fun i y1 y2 y3 => by rw [w_si_j y1, k3 i y2 y3, fW.2 i y1 y2]
      have q33 : (w_si w3 0 33 (nI (tp N T k + ln N T (tp N T k)))).1 0 33 = nI (tp N T k + ln N T (tp N T k)) := w_si_s _ _ _ _
      have q39 : (w_si w3 0 33 (nI (tp N T k + ln N T (tp N T k)))).1 0 39 = nI (C + 1) := by rw [w_si_j (by decide)]; exact k4
      have q34 : (w_si w3 0 33 (nI (tp N T k + ln N T (tp N T k)))).1 0 34 = w3.1 0 34 := w_si_j (by decide)
      have te := tk_end hk
      have tl := tp_le (N := N) (T := T) (k + 1)
      have va : p_X12_value G w = (ob (p_X12_entry G (1 : Int32) (nI j) (w_si w3 0 33 (nI (tp N T k + ln N T (tp N T k))))) fun w29 => some w29) := by
        unfold p_X12_value
        rw [bl, u_ob, f33, u_nn, hdig, u_cw, if_pos rfl]
        refine (vl _ _).trans ?_
        dsimp only
        rw [b41, if_neg j13, k1, u_ob, t_wordR hj, u_cw, q_len hG (ws_R (by omega)).1, u_cw, k3 33 (by decide) (by decide), f33, (ws_R (show j < 18 by omega)).2.1, nI_add, u_nn, s4]
      generalize w_si w3 0 33 (nI (tp N T k + ln N T (tp N T k))) = wz at va q1 q2 q33 q39 q34
      have ey : encI (1, nI j) = -nI (300 + j) := by
        show -((300 : Int32) + nI j) = _
        rw [show (300 : Int32) + nI j = nI (300 + j) from nI_add 300 j]
      by_cases z : C = 60
      · rw [if_pos ⟨rfl, z⟩] at k5
        have hne : wz.1 0 34 ≠ 0 := by rw [q34, k5]; exact flt_ne (c := 3) hN (by decide)
        obtain ⟨wr', a1, a2, a3, a4, a5, a6⟩ := val_bad (G := G) (r := r) (c := c) (E := E) (wz := wz) hs hb (cc := 3) (by decide) q1 q2 (by rw [q34, k5]; rfl) ⟨_, q33, by omega⟩
        refine ⟨wr', wz, k, _, ?_, by rw [va, p_entryF hne, u_ob], a3, a5, a6, fun z => absurd z a4⟩
        rw [rv_word es hj]
        unfold RvC
        rw [cnt 61 (by omega), if_neg (by decide)]; exact a1 _
      · rw [if_neg (fun q => z q.2)] at k5
        obtain ⟨wr', w', a1, a2, a3, a4, a5, a6, a7⟩ := val_end (G := G) (wz := wz) (a := 1) (b := nI j) (y := -nI (300 + j)) hs hg hr hE hc hk (by omega) q1 q2 q39 (by rw [q34]; exact k5) q33
        refine ⟨wr', w', k + 1, 0, ?_, by rw [va, a2, u_ob], a3, a4, ⟨E + 1 + c, a5.2.2.2.1, by omega, by omega⟩, fun _ => ⟨rfl, hk, by omega, a5, ?_, ?_, ?_⟩⟩
        · rw [rv_word es hj]
          unfold RvC
          rw [cnt (C + 1) rfl, if_pos (show nI (C + 1) ≤ (60 : Int32) from nI_le (b := 60) (by omega) (by omega))]; exact a1
        · rw [a6]; exact Or.inr rfl
        · rw [a6]; exact Or.inr (Or.inl ⟨rfl, j, hj, rfl⟩)
        · rw [a6, a7, ey]
end
