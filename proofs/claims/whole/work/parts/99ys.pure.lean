/-! PURE 99ys: both read the text of a rule. -/
def RdL (X a : Nat) : Prop := a = X + 1 ∨ a = X + 3 ∨ a = X + 4 ∨ a = X + 5 ∨ a = X + 7 ∨ a = X + 8
section
variable {G : GG} {X R r c E : Nat} {h : AH} {w : MS} {v v' : VV}
theorem LwC.g {g g' : Nat → Int32} (hL : LwC r c g v E) (e : ∀ j, j < E + c → g' j = g j) : LwC r c g' v E := by
  obtain ⟨S, Tn, En, s0, sc, hq⟩ := hL
  refine ⟨S, Tn, En, s0, sc, fun q hqc => ?_⟩
  obtain ⟨a1, a2, a3, a4, a5, a6, a7, a8, a9, a10, a11⟩ := hq q hqc
  refine ⟨a1, a2, a3, a4, a5, a6, a7, a8, a9, fun i u1 u2 => ?_, ?_⟩
  · rw [e (i + q) (by omega)]; exact a10 i u1 u2
  · rw [e (En q + q) (by omega)]; exact a11
theorem LwC.vv {g : Nat → Int32} (hL : LwC r c g v E) (e : ∀ x, x = 43 ∨ x = 44 ∨ x = 46 ∨ x = 47 ∨ x = 48 → v' x = v x) : LwC r c g v' E := by
  obtain ⟨S, Tn, En, s0, sc, hq⟩ := hL
  have en : ent v' r = ent v r := by funext i; unfold ent; rw [e 43 (by omega), e 44 (by omega)]
  refine ⟨S, Tn, En, s0, sc, fun q hqc => ?_⟩
  rw [en, e 46 (by omega), e 47 (by omega), e 48 (by omega)]
  exact hq q hqc
theorem LwC.law {L : Nat} (hL : LwC r c (m_i h (L + 1)) v E) (hc : c ≤ 12) (hE : E ≤ 299) (ht : m_t h (L + 1) = .inr (.int, E + c)) (h45 : v 45 r = nI c) : LawV h L v r := by
  obtain ⟨S, Tn, En, s0, sc, hq⟩ := hL
  refine ⟨c, S, Tn, En, hc, h45, s0, by omega, by rw [sc]; exact ht, fun q hqc => ?_⟩
  rw [sc]
  exact hq q hqc
theorem LawV.cgE {L : Nat} (hL : LawV h L v r) (e3 : ∀ k, k < 300 → ent v' r k = ent v r k) (e45 : v' 45 r = v 45 r) (e4 : ∀ c, c < 12 → v' 46 (12 * r + c) = v 46 (12 * r + c) ∧ v' 47 (12 * r + c) = v 47 (12 * r + c) ∧ v' 48 (12 * r + c) = v 48 (12 * r + c)) : LawV h L v' r := by
  obtain ⟨n, S, T, E, hn, h45, hS0, hSn, hlen, hcl⟩ := hL
  refine ⟨n, S, T, E, hn, by rw [e45]; exact h45, hS0, hSn, hlen, fun c hc => ?_⟩
  obtain ⟨a1, a2, a3, a4, a5, a6, a7, a8, a9, a10, a11⟩ := hcl c hc
  obtain ⟨b1, b2, b3⟩ := e4 c (by omega)
  refine ⟨by rw [b1]; exact a1, by rw [b2]; exact a2, by rw [b3]; exact a3, a4, a5, a6, a7, ?_, ?_, fun i u1 u2 => ?_, a11⟩
  · rw [seg_cg (es := ent v r) (fun i q1 q2 => e3 i (by omega))]; exact a8
  · rw [seg_cg (es := ent v r) (fun i q1 q2 => e3 i (by omega))]; exact a9
  · rw [e3 i (by omega)]; exact a10 i u1 u2
/-- what comes of reading a rule -/
def RrE (X R : Nat) (h : AH) (w : MS) (h' : AH) (w' : MS) (c' : Nat) : Prop := RI h' (X + 1) ∧ m_i h' (X + 1) 9 = w'.1 0 34 ∧ FO (w'.1 0 34) ∧ m_n h ≤ m_n h' ∧ (∀ a, a < m_n h → m_t h' a = m_t h a ∧ m_r h' a = m_r h a ∧ (¬ RdL X a → m_i h' a = m_i h a ∧ m_l h' a = m_l h a)) ∧ (∀ x, x ≠ 0 → x ≠ 43 → x ≠ 44 → x ≠ 46 → x ≠ 47 → x ≠ 48 → x ≠ 49 → w'.1 x = w.1 x) ∧ (∀ j, ¬ (33 ≤ j ∧ j ≤ 40 ∧ j ≠ 36) → w'.1 0 j = w.1 0 j) ∧ ((∀ j, j < 300 * R → w'.1 43 j = w.1 43 j ∧ w'.1 44 j = w.1 44 j) ∧ ∀ j, j < 12 * R → w'.1 46 j = w.1 46 j ∧ w'.1 47 j = w.1 47 j ∧ w'.1 48 j = w.1 48 j) ∧ (w'.1 0 34 = 0 → m_n h' = m_n h + 4 ∧ LaS h' (m_n h) ∧ c' ≤ 12 ∧ ∃ E, E ≤ 299 ∧ m_t h' (m_n h + 1) = .inr (.int, E + c') ∧ LwC R c' (m_i h' (m_n h + 1)) w'.1 E)
theorem rule_read (hG : GI G) (hS : GS h X) (hTa : TaR h X w) (hR : R < 6) (h36 : w.1 0 36 = nI R) (h41 : w.1 0 41 = 13) : ∃ h' w' c', f_X3_readLaw G (X + 7) h = some (if w'.1 0 34 = 0 then some (m_n h) else none, h') ∧ p_X12_rule G w = some (if w'.1 0 34 = 0 then (nI R, w_si (w_si (w_si w' 0 32 0) 45 R (nI c')) 0 36 (nI (R + 1))) else ((-2 : Int32) - w'.1 0 34, w_si (w_si (w_si w' 0 32 0) 45 R (nI c')) 0 36 (nI R))) ∧ RrE X R h w h' w' c' := by
  have hX : X + 122 ≤ m_n h := hS.2.2.2.2.2.2.2
  obtain ⟨N, hN, ta1, ta2, ta3⟩ := hTa
  -- the reference begins
  have ref0 : ∃ w3, p_X12_starts G (w_si w 0 35 (nI R)) = some w3 ∧ (∀ r, r ≠ 0 → w3.1 r = w.1 r) ∧ (∀ j, ¬ (33 ≤ j ∧ j ≤ 40 ∧ j ≠ 36) → w3.1 0 j = w.1 0 j) ∧ w3.1 0 33 = 0 ∧ w3.1 0 34 = 0 ∧ w3.1 0 35 = nI R ∧ w3.1 0 37 = 0 ∧ w3.1 0 38 = 0 ∧ w3.1 0 39 = 0 := by
    refine ⟨w_si (w_si (w_si (w_si (w_si (w_si w 0 35 (nI R)) 0 33 0) 0 34 0) 0 37 0) 0 38 0) 0 39 0, ?_, fun r q => ?_, fun j hj => ?_, ?_, ?_, ?_, ?_, ?_, ?_⟩
    · unfold p_X12_starts
      rw [u_nn, u_nn, u_nn, u_nn, u_nn]
    · rw [w_si_r q, w_si_r q, w_si_r q, w_si_r q, w_si_r q, w_si_r q]
    · rw [w_si_j (by omega), w_si_j (by omega), w_si_j (by omega), w_si_j (by omega), w_si_j (by omega), w_si_j (by omega)]
    · rw [w_si_j (by decide), w_si_j (by decide), w_si_j (by decide), w_si_j (by decide), w_si_s]
    · rw [w_si_j (by decide), w_si_j (by decide), w_si_j (by decide), w_si_s]
    · rw [w_si_j (by decide), w_si_j (by decide), w_si_j (by decide), w_si_j (by decide), w_si_j (by decide), w_si_s]
    · rw [w_si_j (by decide), w_si_j (by decide), w_si_s]
    · rw [w_si_j (by decide), w_si_s]
    · rw [w_si_s]
  obtain ⟨w3, b1, b2, b3, b33, b34, b35, b37, b38, b39⟩ := ref0
  -- the class begins
  have hI := hS.2.1
  have hRI : RI (m_si (m_si h (X + 7) 2 0) (X + 7) 3 0) (X + 1) := hI.cg rfl rfl
  obtain ⟨p1, p2, p3, p4, p5⟩ := rd7 hI
  have hTx : TxC N (bt w) (rs_of (m_si (m_si h (X + 7) 2 0) (X + 7) 3 0) (X + 1)) := by
    refine ⟨hN, ?_, fun i hi' => ?_⟩
    · show m_i (m_si (m_si h (X + 7) 2 0) (X + 7) 3 0) (X + 1) 1 = _
      rw [m_i_sb (by omega), m_i_sb (by omega)]; exact ta2
    · show m_i (m_si (m_si h (X + 7) 2 0) (X + 7) 3 0) (X + 2) i &&& 255 = _ ∧ _
      rw [m_i_sb (by omega), m_i_sb (by omega), (ta3 i hi').1]
      have := bt_ok (ta3 i hi').2
      exact ⟨this.1, this.2.1⟩
  obtain ⟨wr', d1, d2, d3, d4, d5⟩ := q_open (G := G) hG wt_R hTx
  have op := lrv_e (P := s_X8_open G (G.2.2.2.1 1)) hRI d1
  have I6 : RI (rh (m_si (m_si h (X + 7) 2 0) (X + 7) 3 0) (X + 1) wr') (X + 1) := hRI.cg rfl rfl
  have i6 : ∀ o, o < 8 → (rs_of (rh (m_si (m_si h (X + 7) 2 0) (X + 7) 3 0) (X + 1) wr') (X + 1)).1 o = wr'.1 o := fun o ho => rh_i _ _ _ ho
  have r6 : wr'.1 6 = m_i (m_si (m_si h (X + 7) 2 0) (X + 7) 3 0) (X + 7) := d5 6 (by omega)
  have F6 : ∀ a, ¬ RdL X a → m_i (rh (m_si (m_si h (X + 7) 2 0) (X + 7) 3 0) (X + 1) wr') a = m_i h a := fun a ha => by
    unfold RdL at ha
    show (if X + 1 ≤ a ∧ a < X + 1 + 8 then wr'.1 (a - (X + 1)) else m_i (m_si (m_si h (X + 7) 2 0) (X + 7) 3 0) a) = _
    by_cases z : X + 1 ≤ a ∧ a < X + 1 + 8
    · obtain ⟨o, rfl⟩ : ∃ o, a = X + 1 + o := ⟨a - (X + 1), by omega⟩
      rw [if_pos z, Nat.add_sub_cancel_left, d5 o (by omega)]
      show m_i (m_si (m_si h (X + 7) 2 0) (X + 7) 3 0) (X + 1 + o) = _
      rw [m_i_sb (by omega), m_i_sb (by omega)]
    · rw [if_neg z, m_i_sb (by omega), m_i_sb (by omega)]
  have hTW : TxW N (bt w) w3 := by
    refine ⟨hN, by rw [b3 32 (by omega)]; exact ta1, fun i hi' => ?_⟩
    rw [b2 42 (by decide)]; exact bt_ok (ta3 i hi').2
  have hsy : Syn wlR N (bt w) (rs_of (rh (m_si (m_si h (X + 7) 2 0) (X + 7) 3 0) (X + 1) wr') (X + 1)) w3 0 0 := Syn.cg (wr := wr') ⟨d2, d4, d3, hTW, b34, 0, b33, ⟨by decide, FO_0⟩, fun _ => ⟨Nat.zero_le _, fun j _ q2 => tk_first j q2⟩⟩ (fun r hr => i6 r hr)
  have hgd : Gd R 0 (rs_of (rh (m_si (m_si h (X + 7) 2 0) (X + 7) 3 0) (X + 1) wr') (X + 1)) w3 0 0 := by
    refine ⟨b37, b39, ?_, ?_, by decide⟩
    · rw [i6 6 (by decide), r6, m_i_ss]; rfl
    · rw [i6 6 (by decide), r6, m_i_sj (by decide), m_i_ss]; rfl
  generalize hh6 : rh (m_si (m_si h (X + 7) 2 0) (X + 7) 3 0) (X + 1) wr' = h6 at op I6 i6 F6 hsy hgd
  have n6 : m_n h6 = m_n h := by rw [← hh6]; rfl
  have t6 : m_t h6 = m_t h := by rw [← hh6]; rfl
  have rr6 : m_r h6 = m_r h := by rw [← hh6]; rfl
  have l6 : m_l h6 = m_l h := by rw [← hh6]; rfl
  obtain ⟨h', w', c', e1, e2, e3⟩ := rule_loop (G := G) hG hR 12 0 bN bN h6 w3 0 0 0 0 rfl (Nat.le_of_lt (bN_gt (d := 14) (by decide))) (Nat.le_of_lt (bN_gt (d := 14) (by decide))) I6 hsy hgd (by rw [b3 41 (by omega)]; exact h41) b35 b38 (by decide) (Nat.zero_le _) ⟨fun _ => 0, fun _ => 0, fun _ => 0, rfl, rfl, fun q hq => absurd hq (by omega)⟩
  obtain ⟨g1, g2, g3, g4, g5, g6⟩ := e3
  obtain ⟨q1, q2, q3, q4, q5⟩ := rd7 g1
  have w35 : w'.1 0 35 = nI R := by rw [g5.2.1 35 (by decide) (by decide) (by decide) (by decide) (by decide) (by decide)]; exact b35
  have w36 : w'.1 0 36 = nI R := by rw [g5.2.1 36 (by decide) (by decide) (by decide) (by decide) (by decide) (by decide), b3 36 (by omega)]; exact h36
  -- the reference's end
  have ref : p_X12_rule G w = some (if w'.1 0 34 = 0 then (nI R, w_si (w_si (w_si w' 0 32 0) 45 R (nI c')) 0 36 (nI (R + 1))) else ((-2 : Int32) - w'.1 0 34, w_si (w_si (w_si w' 0 32 0) 45 R (nI c')) 0 36 (nI R))) := by
    unfold p_X12_rule
    rw [h36, if_neg (show ¬ nI R = (6 : Int32) from fun q => by have := (nI_eq (a := R) (b := 6) (by omega) (by decide)).mp q; omega), u_nn, b1, u_ob]
    refine (e2 _).trans ?_
    have z35 : (w_si w' 0 32 0).1 0 35 = nI R := by rw [w_si_j (by decide)]; exact w35
    have z34 : (w_si (w_si w' 0 32 0) 45 R (nI c')).1 0 34 = w'.1 0 34 := by rw [w_si_r (by decide), w_si_j (by decide)]
    have z36 : (w_si (w_si w' 0 32 0) 45 R (nI c')).1 0 36 = nI R := by rw [w_si_r (by decide), w_si_j (by decide)]; exact w36
    rw [u_nn, z35, u_ck (u_ixn hR (by decide)), nI_clamp (by omega), u_nn, u_nn, z34]
    obtain ⟨cf, cf1, cf2⟩ := g3
    by_cases z : w'.1 0 34 = 0
    · rw [if_pos z, if_pos z]
      dsimp only
      rw [z36, nI_1, u_nn, w_si_j (show 34 ≠ 36 by decide), z34, if_pos (show w'.1 0 34 ≤ 0 by rw [z]; decide), w_si_s, nI_pred]
    · rw [if_neg z, if_neg z]
      dsimp only
      have : nI R + 0 = nI R := nI_add R 0
      rw [z36, this, u_nn, w_si_j (show 34 ≠ 36 by decide), z34, if_neg]
      rw [cf2] at z ⊢
      exact nI_ge (a := 0) (Nat.pos_of_ne_zero (fun y => z (by rw [y]; rfl))) (by omega)
  have cl0 : f_X3_readLaw G (X + 7) h = (if w'.1 0 34 = 0 then (nn (m_n h') fun x52 => nn (m_new h' (.inl 2)) fun h53 => ck (m_t h53 (X + 7) = .inl 3) <| ob (m_r h53 (X + 7) 1) fun b55 => cb (f_J7_copyOf_59c91 G b55 (m_i h53 (X + 7) 2) h53) fun r58 h56 => ob (f_X2_init G x52 r58 h56) fun h59 => some (some x52, h59)) else some (none, h')) := by
    unfold f_X3_readLaw
    rw [u_ck p1, u_nn, u_nn, m_r_si, m_r_si, p2, u_ob, m_t_si, m_t_si, u_ck p3, op, u_ob]
    refine (e1 _).trans ?_
    rw [u_ck q1, q2, u_ob, u_ck q3, g2]
  have lowR : ∀ a, a < m_n h → m_t h' a = m_t h a ∧ m_r h' a = m_r h a ∧ (¬ RdL X a → m_i h' a = m_i h a ∧ m_l h' a = m_l h a) := fun a ha => by
    refine ⟨by rw [g4.1, t6], by rw [g4.2.1, rr6], fun hq => ?_⟩
    have := g4.2.2.2 a (by unfold RW; unfold RdL at hq; omega)
    rw [this.1, this.2, l6, F6 a hq]; exact ⟨rfl, rfl⟩
  have fw1 : ∀ x, x ≠ 0 → x ≠ 43 → x ≠ 44 → x ≠ 46 → x ≠ 47 → x ≠ 48 → x ≠ 49 → w'.1 x = w.1 x := fun x u1 u2 u3 u4 u5 u6 u7 => by rw [g5.1 x u1 u2 u3 u4 u5 u6 u7, b2 x u1]
  have fw2 : ∀ j, ¬ (33 ≤ j ∧ j ≤ 40 ∧ j ≠ 36) → w'.1 0 j = w.1 0 j := fun j hj => by rw [g5.2.1 j (by omega) (by omega) (by omega) (by omega) (by omega) (by omega), b3 j hj]
  have fw3 : (∀ j, j < 300 * R → w'.1 43 j = w.1 43 j ∧ w'.1 44 j = w.1 44 j) ∧ ∀ j, j < 12 * R → w'.1 46 j = w.1 46 j ∧ w'.1 47 j = w.1 47 j ∧ w'.1 48 j = w.1 48 j := ⟨fun j hj => by have := g5.2.2.1 j hj; rw [b2 43 (by decide), b2 44 (by decide)] at this; exact this, fun j hj => by have := g5.2.2.2 j hj; rw [b2 46 (by decide), b2 47 (by decide), b2 48 (by decide)] at this; exact this⟩
  have n' : m_n h' = m_n h := by rw [g4.2.2.1, n6]
  by_cases z : w'.1 0 34 = 0
  · obtain ⟨y1, E, y2, y3, y4⟩ := g6 z
    obtain ⟨h5, k1, k2, k3, k4, k5, k6⟩ := c_law (G := G) g1 y3 (by omega) (by rw [n']; exact hX)
    rw [n'] at k1 k2 k3 k4 k5 k6
    rw [n'] at cl0
    refine ⟨h5, w', c', by rw [cl0, if_pos z, if_pos z]; exact k1, ref, ⟨fun q hq => ?_, fun q hq => ?_⟩, ?_, g3, by omega, fun a ha => ?_, fw1, fw2, fw3, fun _ => ⟨k2, k4, y1, E, y2, k5, y4.g (fun j hj => k6 j hj)⟩⟩
    · have : q.1 < 8 := by simp [rT] at hq; rcases hq with rfl | rfl | rfl | rfl | rfl | rfl | rfl | rfl <;> decide
      rw [(k3 _ (by omega)).1]; exact g1.1 q hq
    · have : q.1 < 8 := by revert hq; revert q; decide
      rw [(k3 _ (by omega)).2.1]; exact g1.2 q hq
    · rw [(k3 _ (by omega)).2.2.1]; exact g2
    · have := k3 a ha
      have l := lowR a ha
      refine ⟨this.1.trans l.1, this.2.1.trans l.2.1, fun hq => ⟨this.2.2.1.trans (l.2.2 hq).1, this.2.2.2.trans (l.2.2 hq).2⟩⟩
  · exact ⟨h', w', c', by rw [cl0, if_neg z, if_neg z], ref, g1, g2, g3, by omega, lowR, fw1, fw2, fw3, fun q => absurd q z⟩
end
