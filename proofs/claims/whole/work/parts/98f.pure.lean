/-! PURE 98f: feed. -/
section
variable {G : GG} {own : Nat → Nat} {R X c t U : Nat} {h h1 h' : AH} {w w2 wr : MS} {v v' v0 : VV}
theorem RelO.tp (hR : RelO own R h X w) (hF : Fr (fun a => a = X + 1 ∨ a = X + 2) h h1) (er : ∀ r, r ≠ 0 → r ≠ 42 → w2.1 r = w.1 r) (e0 : ∀ i, i ≠ 32 → w2.1 0 i = w.1 0 i) (hT : TaR h1 X w2) : RelO own R h1 X w2 ∧ Kp X h h1 := by
  obtain ⟨g, ta, r, l, ⟨U, u, sc⟩, i⟩ := hR
  have g8 := g.2.2.2.2.2.2.2
  have hi : ∀ a, a ≠ X + 1 → a ≠ X + 2 → m_i h1 a = m_i h a := fun a q1 q2 => (hF.2.2.2 a (by omega)).1
  have hl : ∀ a, a ≠ X + 1 → a ≠ X + 2 → m_l h1 a = m_l h a := fun a q1 q2 => (hF.2.2.2 a (by omega)).2
  have hD : FrD X R (fun _ => False) h h1 := ⟨by rw [hF.2.2.1]; exact Nat.le_refl _, fun a q1 q2 => ⟨by rw [hF.1], fun _ => ⟨by rw [hF.2.1], fun _ => hi a (by omega) (by omega)⟩⟩⟩
  have hX : FrX X h h1 := ⟨fun a _ _ => by rw [hF.1], fun a _ _ _ _ _ _ => by rw [hF.2.1], fun k _ => by rw [hF.2.1], fun k _ => by rw [hF.2.1], fun a q1 q2 => hi a (by omega) (by omega), fun a q1 q2 => ⟨by rw [hF.1], by rw [hF.2.1], hi a (by omega) (by omega), hl a (by omega) (by omega)⟩⟩
  have hnE : ExO own h (fun _ => False) := fun _ q => q.elim
  have hss : ScS h1 (X + 10) (X + 31) (X + 32) := by
    obtain ⟨_, _, s1, -⟩ := sc
    unfold ScS at s1 ⊢
    rw [hF.1, hF.2.1]; exact s1
  have epw : PW w.1 w2.1 := fun r q1 q2 i _ => by rw [er r (by omega) (by omega)]
  exact ⟨⟨hX.gs hD.1 g, hT, ⟨r.1, by rw [e0 36 (by decide)]; exact r.2.1, by rw [hi X (by omega) (by omega)]; exact r.2.2.1, by rw [e0 41 (by decide)]; exact r.2.2.2⟩, l.frd hnE hD (fun _ _ => rfl) (fun _ _ => by rw [hF.2.1]) (fun k q1 q2 => er k (by omega) (by omega)), ⟨U, by rw [e0 55 (by decide)]; exact u, (sc.cp l hnE hD hX (fun _ _ => rfl) hss (by rw [hF.2.1]) (fun _ _ _ => by rw [hi _ (by omega) (by omega)]) (fun _ _ => by rw [hi _ (by omega) (by omega), hi _ (by omega) (by omega)]; exact ⟨rfl, rfl⟩)).pw epw (fun n _ => by rw [er 53 (by decide) (by decide)])⟩, fun k hk => (i k hk).frd l hD hX (fun _ _ => rfl) (by rw [hF.2.1]) (er 81 (by decide) (by decide)) (by rw [er 82 (by decide) (by decide)])⟩, hX.kp hD.1⟩
/-- both tapes at the n-th place -/
def TP (n : Nat) (wr w : MS) : Prop := wr.1 0 1 = nI n ∧ w.1 0 32 = nI n ∧ ∀ i, i < n → wr.1 1 i = w.1 42 i ∧ (w.1 42 i).toInt8.toInt32 = w.1 42 i
def TF (wr w wr' w' : MS) : Prop := (∀ r, r ≠ 0 → r ≠ 1 → wr'.1 r = wr.1 r) ∧ (∀ r, r ≠ 0 → r ≠ 42 → w'.1 r = w.1 r) ∧ ∀ i, i ≠ 32 → w'.1 0 i = w.1 0 i
theorem TF.tr {a b a1 b1 a2 b2 : MS} (x : TF a b a1 b1) (y : TF a1 b1 a2 b2) : TF a b a2 b2 := ⟨fun r q1 q2 => (y.1 r q1 q2).trans (x.1 r q1 q2), fun r q1 q2 => (y.2.1 r q1 q2).trans (x.2.1 r q1 q2), fun i q => (y.2.2 i q).trans (x.2.2 i q)⟩
theorem put_one {n : Nat} {v s : Int32} (hP : TP n wr w) (hn : n < 400) (hs : ¬ s < 0) : ∃ wr' w', (∀ self, S_X8_append_3 G v self s wr = self (s + -8) wr') ∧ (∀ self, P_X12_put_3 G v self s w = self (s + -8) w') ∧ TP (n + 1) wr' w' ∧ TF wr w wr' w' := by
  obtain ⟨p1, p2, p3⟩ := hP
  have hb : ((v >>> (s &&& 31)).toInt8.toInt32).toInt8.toInt32.toInt8.toInt32 = ((v >>> (s &&& 31)).toInt8.toInt32).toInt8.toInt32 := by simp
  generalize hx : ((v >>> (s &&& 31)).toInt8.toInt32).toInt8.toInt32 = x at hb
  refine ⟨w_si (w_si wr 1 n x) 0 1 (nI (n + 1)), w_si (w_si w 42 n x) 0 32 (nI (n + 1)), fun self => ?_, fun self => ?_, ⟨w_si_s _ _ _ _, w_si_s _ _ _ _, fun i hi => ?_⟩, fun r q1 q2 => by rw [w_si_r q1, w_si_r q2], fun r q1 q2 => by rw [w_si_r q1, w_si_r q2], fun i q => by rw [w_si_j q, w_si_r (by decide)]⟩
  · rw [S_X8_append_3, if_neg hs, p1, if_neg (show ¬ (400 : Int32) ≤ nI n from fun z => by rw [I_le, nI_toInt (by omega)] at z; have i4 : (400 : Int32).toInt = 400 := rfl; omega), u_ck (u_ixn hn (by decide)), u_nn, hx, nI_clamp (by omega), w_si_r (by decide), p1, u_nn, u_nn, nI_1]
  · rw [P_X12_put_3, if_neg hs, p2, u_ck (u_ixn hn (by decide)), u_nn, hx, nI_clamp (by omega), w_si_r (by decide), p2, u_nn, u_nn, nI_1]
  · rw [w_si_r (show (1 : Nat) ≠ 0 by decide), w_si_r (show (42 : Nat) ≠ 0 by decide)]
    by_cases z : i = n
    · subst z; rw [w_si_s, w_si_s]; exact ⟨rfl, hb⟩
    · rw [w_si_j z, w_si_j z]; exact p3 i (by omega)
theorem put_both {n : Nat} {v : Int32} (hP : TP n wr w) (hn : n + 4 ≤ 400) : ∃ wr' w', s_X8_append G v wr = some wr' ∧ p_X12_put G v w = some w' ∧ TP (n + 4) wr' w' ∧ TF wr w wr' w' := by
  obtain ⟨r1, w1, a1, b1, c1, d1⟩ := put_one (G := G) (v := v) (s := 24) hP (by omega) (by decide)
  obtain ⟨r2, w2, a2, b2, c2, d2⟩ := put_one (G := G) (v := v) (s := 24 + -8) c1 (by omega) (by decide)
  obtain ⟨r3, w3, a3, b3, c3, d3⟩ := put_one (G := G) (v := v) (s := 24 + -8 + -8) c2 (by omega) (by decide)
  obtain ⟨r4, w4, a4, b4, c4, d4⟩ := put_one (G := G) (v := v) (s := 24 + -8 + -8 + -8) c3 (by omega) (by decide)
  have cs : ∀ N, 4 < N → lw1 (S_X8_append_3 G v) N 24 wr = some r4 := fun N hN => by
    obtain ⟨N, rfl⟩ : ∃ M, N = M + 5 := ⟨N - 5, by omega⟩
    refine (a1 _).trans ((a2 _).trans ((a3 _).trans ((a4 _).trans ?_)))
    show S_X8_append_3 G v _ _ _ = _
    rw [S_X8_append_3, if_pos (by decide)]
  have cp : ∀ N, 4 < N → lw1 (P_X12_put_3 G v) N 24 w = some w4 := fun N hN => by
    obtain ⟨N, rfl⟩ : ∃ M, N = M + 5 := ⟨N - 5, by omega⟩
    refine (b1 _).trans ((b2 _).trans ((b3 _).trans ((b4 _).trans ?_)))
    show P_X12_put_3 G v _ _ _ = _
    rw [P_X12_put_3, if_pos (by decide)]
  exact ⟨r4, w4, cs bN (bN_gt (by decide)), cp bN (bN_gt (by decide)), c4, ((d1.tr d2).tr d3).tr d4⟩
theorem app_both (hR : RelO own R h X w) {n : Nat} (hn : n + 4 ≤ 400) (h32 : w.1 0 32 = nI n) (v : Int32) : ∃ h1 w1, lrv 0 (X + 1) (s_X8_append G v) h = some h1 ∧ p_X12_put G v w = some w1 ∧ RelO own R h1 X w1 ∧ Kp X h h1 ∧ w1.1 0 32 = nI (n + 4) ∧ m_i h1 (X + 1) 1 = nI (n + 4) := by
  obtain ⟨m, hm, t1, t2, t3⟩ := hR.2.1
  have em : m = n := by
    have : nI m = nI n := t1.symm.trans h32
    rw [I_eq, nI_toInt (by omega), nI_toInt (by omega)] at this
    omega
  subst em
  have hP : TP m (rs_of h (X + 1)) w := ⟨t2, t1, fun i hi => t3 i hi⟩
  obtain ⟨wr', w', a1, a2, a3, a4⟩ := put_both (G := G) (v := v) hP hn
  have iin : ∀ o, o < 8 → m_i (rh h (X + 1) wr') (X + 1 + o) = wr'.1 o := fun o ho => by
    show (if X + 1 ≤ X + 1 + o ∧ X + 1 + o < X + 1 + 8 then wr'.1 (X + 1 + o - (X + 1)) else m_i h (X + 1 + o)) = _
    rw [if_pos (by omega), Nat.add_sub_cancel_left]
  have iout : ∀ a, ¬ (X + 1 ≤ a ∧ a < X + 1 + 8) → m_i (rh h (X + 1) wr') a = m_i h a := fun a ha => by
    show (if X + 1 ≤ a ∧ a < X + 1 + 8 then wr'.1 (a - (X + 1)) else m_i h a) = _
    rw [if_neg ha]
  have hF : Fr (fun a => a = X + 1 ∨ a = X + 2) h (rh h (X + 1) wr') := ⟨rfl, rfl, rfl, fun a ha => ⟨by
    by_cases z : X + 1 ≤ a ∧ a < X + 1 + 8
    · obtain ⟨o, rfl⟩ : ∃ o, a = X + 1 + o := ⟨a - (X + 1), by omega⟩
      rw [iin o (by omega), a4.1 o (by omega) (by omega)]; rfl
    · exact iout a z, rfl⟩⟩
  have i0 : m_i (rh h (X + 1) wr') (X + 1) = wr'.1 0 := iin 0 (by decide)
  have i1 : m_i (rh h (X + 1) wr') (X + 2) = wr'.1 1 := iin 1 (by decide)
  obtain ⟨o1, o2⟩ := hR.tp (h1 := rh h (X + 1) wr') (w2 := w') hF a4.2.1 a4.2.2 ⟨m + 4, by omega, a3.2.1, by rw [i0]; exact a3.1, fun i hi => by rw [i1]; exact a3.2.2 i hi⟩
  refine ⟨rh h (X + 1) wr', w', ?_, a2, o1, o2, a3.2.1, by rw [i0]; exact a3.1⟩
  unfold lrv
  refine Eq.trans (@if_pos (0 ≤ X + 1 ∧ RI h (X + 1 - 0)) (Classical.propDecidable _) ⟨Nat.zero_le _, hR.1.2.1⟩ _ _ _) ?_
  show ob (s_X8_append G v (rs_of h (X + 1))) _ = _
  rw [a1, u_ob]; rfl
theorem Kp.tr3 {h h1 h2 : AH} (a : Kp X h h1) (b : Kp X h1 h2) : Kp X h h2 := ⟨Nat.le_trans a.1 b.1, fun q q1 q2 => ⟨(b.2 q q1 q2).1.trans (a.2 q q1 q2).1, (b.2 q q1 q2).2.1.trans (a.2 q q1 q2).2.1, (b.2 q q1 q2).2.2.1.trans (a.2 q q1 q2).2.2.1, (b.2 q q1 q2).2.2.2.trans (a.2 q q1 q2).2.2.2⟩⟩
theorem call_feed (a b d e f : Int32) : Call X (f_X11_feed G X a b d e f) (p_X12_feed G a b d e f) := by
  intro h w ⟨own, R, hR⟩
  obtain ⟨n, hn, t1, t2, -⟩ := hR.2.1
  have tp : ∀ {h w}, RelO own R h X w → m_t h X = .inl 11 ∧ m_r h X 0 = some (X + 1) ∧ m_t h (X + 1) = .inl 8 := fun hR => ⟨hR.1.1.1, hR.1.1.2.1, hR.1.2.1.1 (0, .inl 8) (by simp [rT])⟩
  obtain ⟨p1, p2, p3⟩ := tp hR
  unfold f_X11_feed p_X12_feed
  rw [u_ck p1, p2, u_ob, u_ck p3, t2, t1]
  have i20 : (20 : Int32) = nI 20 := rfl
  have i400 : (400 : Int32) = nI 400 := rfl
  have es : nI n + 20 = nI (n + 20) := by
    rw [I_eq, I_add (by rw [nI_toInt (by omega)]; have : (20 : Int32).toInt = 20 := rfl; omega) (by rw [nI_toInt (by omega)]; have : (20 : Int32).toInt = 20 := rfl; omega), nI_toInt (by omega), nI_toInt (by omega)]; rfl
  rw [es]
  by_cases z : n + 20 ≤ 400
  · have z1 : nI (n + 20) ≤ 400 := nI_le (a := n + 20) (b := 400) (by omega) (by omega)
    rw [if_pos z1, if_pos z1]
    obtain ⟨h1, w1, a1, b1, r1, k1, n1, -⟩ := app_both (G := G) hR (n := n) (by omega) t1 a
    obtain ⟨h2, w2, a2, b2, r2, k2, n2, -⟩ := app_both (G := G) r1 (n := n + 4) (by omega) n1 b
    obtain ⟨h3, w3, a3, b3, r3, k3, n3, -⟩ := app_both (G := G) r2 (n := n + 4 + 4) (by omega) n2 d
    obtain ⟨h4, w4, a4, b4, r4, k4, n4, -⟩ := app_both (G := G) r3 (n := n + 4 + 4 + 4) (by omega) n3 e
    obtain ⟨h5, w5, a5, b5, r5, k5, n5, m5⟩ := app_both (G := G) r4 (n := n + 4 + 4 + 4 + 4) (by omega) n4 f
    obtain ⟨q1, q2, q3⟩ := tp r1
    obtain ⟨q4, q5, q6⟩ := tp r2
    obtain ⟨q7, q8', q9⟩ := tp r3
    obtain ⟨s1, s2, s3⟩ := tp r4
    obtain ⟨s4, s5, s6⟩ := tp r5
    rw [u_ob, u_ck p3, a1, u_ob, u_ck q1, q2, u_ob, u_ck q3, a2, u_ob, u_ck q4, q5, u_ob, u_ck q6, a3, u_ob, u_ck q7, q8', u_ob, u_ck q9, a4, u_ob, u_ck s1, s2, u_ob, u_ck s3, a5, u_ob, u_ck s4, s5, u_ob, u_ck s6, m5, b1, u_ob, b2, u_ob, b3, u_ob, b4, u_ob, b5, u_ob, n5]
    exact ⟨_, _, _, rfl, rfl, ⟨own, R, r5⟩, (((k1.tr3 k2).tr3 k3).tr3 k4).tr3 k5⟩
  · have z1 : ¬ nI (n + 20) ≤ 400 := fun y => by
      rw [I_le, nI_toInt (by omega)] at y
      have i4 : (400 : Int32).toInt = 400 := rfl
      omega
    rw [if_neg z1, if_neg z1]; exact stay hR _
end
