/-! PURE 95: journeys: a mile. -/
section
variable {G : GG} {own : Nat → Nat} {R X c t U : Nat} {h h0 h1 h2 h' : AH} {w w0 w' w1 w2 w3 : MS} {v v' v0 : VV} {law : Option Nat}
theorem LawOk.fr {S : Nat → Prop} (hl : LawOk h c t v law) (hF : Fr S h h') (hs : ∀ L, law = some L → ¬ S (L + 1)) (e : ∀ k, 43 ≤ k → k ≤ 48 → v' k = v k) (e16 : v' 1 16 = v 1 16) : LawOk h' c t v' law := by
  rcases hl with ⟨a, b⟩ | ⟨L, r, a1, a2, a3, a4, a5, a6⟩
  · exact Or.inl ⟨a, by rw [e16]; exact b⟩
  · exact Or.inr ⟨L, r, a1, by rw [e16]; exact a2, a3, a4.hp (fun a _ _ => by rw [hF.1]) (by rw [hF.2.1]), (a5.hp (by rw [hF.1]) (hF.2.2.2 (L + 1) (hs L a1)).1).cg e, a6⟩
/-- where a journey stands -/
def JS (h : AH) (X t : Nat) (w : MS) (law : Option Nat) : Prop := (m_t h X = .inl 11 ∧ m_r h X 7 = some (X + 34) ∧ X + 122 ≤ t ∧ ∀ a, MSc (X + 34) law a → (X + 34 ≤ a ∧ a < X + 39) ∨ X + 122 ≤ a) ∧ m_i h X 12 = w.1 1 15 ∧ 0 ≤ w.1 1 15 ∧ Cab h (X + 34) t w.1 ∧ Sta w.1 ∧ LawOk h (X + 34) t w.1 law
theorem law_L (hJ : ∀ a, MSc (X + 34) law a → (X + 34 ≤ a ∧ a < X + 39) ∨ X + 122 ≤ a) {L : Nat} (e : law = some L) : X + 34 ≤ L := by
  have := hJ L (Or.inr ⟨L, e, by unfold LSc; omega⟩)
  omega
def JF (X : Nat) (w w' : MS) : Prop := Fw MRw w w' ∧ ∀ i, i ≠ 10 → i ≠ 11 → i ≠ 13 → i ≠ 15 → w'.1 1 i = w.1 1 i
theorem JF.tr (a : JF X w w1) (b : JF X w1 w2) : JF X w w2 := ⟨a.1.tr b.1, fun i q1 q2 q3 q4 => (b.2 i q1 q2 q3 q4).trans (a.2 i q1 q2 q3 q4)⟩
def JF0 (X : Nat) (w w' : MS) : Prop := Fw (fun r => r = 1) w w' ∧ ∀ i, i ≠ 13 → i ≠ 15 → w'.1 1 i = w.1 1 i
theorem JF0.tr (a : JF0 X w w1) (b : JF0 X w1 w2) : JF0 X w w2 := ⟨a.1.tr b.1, fun i q3 q4 => (b.2 i q3 q4).trans (a.2 i q3 q4)⟩
theorem JF0.jf (a : JF0 X w w1) : JF X w w1 := ⟨a.1.wk (fun q z => Or.inl z), fun i _ _ q3 q4 => a.2 i q3 q4⟩
theorem FrQ.x12 {x : Int32} : FrQ X R h (m_si h X 12 x) := ⟨rfl, rfl, fun _ _ => rfl, fun _ _ => rfl, fun a _ q => ⟨m_i_sb q, rfl⟩, fun k hk => m_i_sj hk, rfl⟩
theorem JS.draw (hJ : JS h X t w law) : JS (m_si h X 12 (drw (w.1 1 15))) X t (w_si w 1 15 (drw (w.1 1 15))) law ∧ FrQ X R h (m_si h X 12 (drw (w.1 1 15))) ∧ JF0 X w (w_si w 1 15 (drw (w.1 1 15))) := by
  obtain ⟨⟨a1, a2, a3, a4⟩, b1, b2, b3, b4, b5⟩ := hJ
  have hF : Fr (fun a => a = X) h (m_si h X 12 (drw (w.1 1 15))) := Fr.si rfl
  have e : PW3 w.1 (w_si w 1 15 (drw (w.1 1 15))).1 := PW3.of1 (by decide)
  refine ⟨⟨⟨a1, a2, a3, a4⟩, by rw [m_i_ss, w_si_s], by rw [w_si_s]; exact (drw_e b2).2, (b3.fr (st_N8 b4.1) hF (fun a z => by omega)).pw b4.1 e, b4.pw e, b5.fr hF (fun L hL z => by have := law_L a4 hL; omega) (fun k q1 q2 => w_si_r (by omega)) (w_si_j (by decide))⟩, FrQ.x12, Fw.si rfl, fun i _ q => w_si_j q⟩
theorem JS.hole {x : Int32} (hJ : JS h X t w law) (hx : bd x 0 5) : JS (m_si h (X + 34) 2 x) X t (w_si w 1 13 x) law ∧ FrQ X R h (m_si h (X + 34) 2 x) ∧ JF0 X w (w_si w 1 13 x) := by
  obtain ⟨⟨a1, a2, a3, a4⟩, b1, b2, b3, b4, b5⟩ := hJ
  have hF : Fr (fun a => a = X + 34) h (m_si h (X + 34) 2 x) := Fr.si rfl
  have hC2 : Cab (m_si h (X + 34) 2 x) (X + 34) t (w_si w 1 13 x).1 := by
    refine b3.sc (st_N8 b4.1) rfl rfl (fun a ha => m_i_sb ha) (fun r _ _ _ => w_si_r (by omega)) (fun i hi => w_si_j (by omega)) (by rw [m_i_ss, w_si_s]) (by rw [m_i_sj (by decide), w_si_j (by decide)]; exact cab_i3 b3) (by rw [m_i_sj (by decide), w_si_j (by decide)]; exact cab_i4 b3) ?_
    rw [m_i_sj (by decide)]
    have := cab_i5 b3
    unfold KV kv at this ⊢
    rw [w_si_j (by decide), w_si_r (by decide)]; exact this
  refine ⟨⟨⟨a1, a2, a3, a4⟩, by rw [m_i_sb (by omega), w_si_j (by decide)]; exact b1, by rw [w_si_j (by decide)]; exact b2, hC2, b4.sc (Or.inl ⟨rfl, hx⟩), b5.fr hF (fun L hL z => by have := law_L a4 hL; omega) (fun k q1 q2 => w_si_r (by omega)) (w_si_j (by decide))⟩, hF.q (fun a z => ⟨Or.inl (by omega), by omega⟩), Fw.si rfl, fun i q _ => w_si_j q⟩
theorem nI_div {a b : Nat} (ha : a < 2 ^ 31) (hb : b < 2 ^ 31) : nI a / nI b = nI (a / b) := by
  rw [I_eq, Int32.toInt_div, nI_toInt ha, nI_toInt hb, nI_toInt (Nat.lt_of_le_of_lt (Nat.div_le_self _ _) ha), Int.tdiv_eq_ediv_of_nonneg (by omega)]
  have h1 : ((a / b : Nat) : Int) = (a : Int) / (b : Int) := Int.natCast_ediv a b
  have h2 := Nat.div_le_self a b
  rw [← h1]
  generalize a / b = k at *
  rw [I_bm (by omega) (by omega)]
theorem nI_mod {a b : Nat} (ha : a < 2 ^ 31) (hb : b < 2 ^ 31) : nI a - nI a / nI b * nI b = nI (a % b) := by
  have e := Nat.div_add_mod a b
  have hk := Nat.div_le_self a b
  rw [nI_div ha hb]
  generalize a / b = k at *
  generalize a % b = m at *
  have t1 : (nI k * nI b).toInt = ((b * k : Nat) : Int) := by
    have e2 : (nI k).toInt * (nI b).toInt = ((b * k : Nat) : Int) := by
      rw [nI_toInt (by omega), nI_toInt hb, Int.natCast_mul, Int.mul_comm]
    rw [I_mul (by omega) (by omega), e2]
  rw [I_eq, I_sub (by rw [t1, nI_toInt ha]; omega) (by rw [t1, nI_toInt ha]; omega), t1, nI_toInt ha, nI_toInt (by omega)]
  omega
/-- a strap is pulled by one of the riders -/
theorem pull_both (hJ : JS h X t w law) : ∃ h2 w2, f_X11_drawPull G X h = some h2 ∧ (∀ j : MS → Option (Int32 × MS), (cw (p_X12_ridersMany G w) fun r44 w42 => if r44 ≤ 0 then (j w42) else cw (p_X12_ridersMany G w42) fun r48 w46 => cw (p_X12_draws G r48 w46) fun r51 w49 => cw (p_X12_riderOf G r51 w49) fun r54 w52 => cw (p_X12_wantOf G r54 w52) fun r57 w55 => ck (ixn 17 (13 : Int32) = true) <| nn (w_si w55 1 (13 : Int32).toNatClampNeg r57) fun w59 => j w59) = j w2) ∧ JS h2 X t w2 law ∧ FrQ X R h h2 ∧ JF0 X w w2 := by
  have hJ' := hJ
  obtain ⟨⟨a1, a2, a3, a4⟩, b1, b2, b3, b4, b5⟩ := hJ
  obtain ⟨-, -, -, hbc⟩ := bit_cnt b4.1
  have hN8 := st_N8 b4.1
  have hcn := cN_le w.1 (sN w.1) 0
  have ec := cnt_e b4.1
  by_cases z : cN w.1 (sN w.1) 0 = 0
  · have z0 : cntV w.1 ≤ 0 := by rw [ec, z]; decide
    refine ⟨h, w, ?_, fun j => ?_, hJ', FrQ.rf, Fw.rf, fun _ _ _ => rfl⟩
    · unfold f_X11_drawPull
      rw [u_ck a1, a2, u_ob, u_ck (cab_t b3), c_aboardBits b3 b4.1 b4.2.1, u_cb, c_bitCount, u_cb, hbc, if_pos z0]
    · rw [p_ridersMany b4.1, u_cw, if_pos z0]
  · generalize hn : cN w.1 (sN w.1) 0 = n at *
    have z0 : ¬ cntV w.1 ≤ 0 := by
      rw [ec, I_le, nI_toInt (by omega)]; have i0 : (0 : Int32).toInt = 0 := rfl; omega
    have z1 : ¬ cntV w.1 = 0 := by
      rw [ec, I_eq, nI_toInt (by omega)]; have i0 : (0 : Int32).toInt = 0 := rfl; omega
    obtain ⟨j1, j2, j3⟩ := hJ'.draw (R := R)
    have j1' := j1
    obtain ⟨⟨-, c2, -, -⟩, d1, d2, d3, d4, d5⟩ := j1
    obtain ⟨g, hg, eg⟩ : ∃ g : Nat, g < 2 ^ 31 ∧ drw (w.1 1 15) / 65536 = nI g := by
      have := (drw_e b2).2
      obtain ⟨k, hk, e⟩ := nI_of (x := drw (w.1 1 15)) (by rw [I_lt]; rw [I_le] at this; omega)
      refine ⟨k / 65536, by omega, ?_⟩
      rw [e, show (65536 : Int32) = nI 65536 from rfl, nI_div hk (by decide)]
    have eN : sN (w_si w 1 15 (drw (w.1 1 15))).1 = sN w.1 := pwN (PW3.of1 (w := w) (by decide))
    have ecN : ∀ d k, cN (w_si w 1 15 (drw (w.1 1 15))).1 d k = cN w.1 d k := by
      intro d
      induction d with
      | zero => intro k; rfl
      | succ d ih => intro k; unfold cN; rw [ih, w_si_r (by decide)]
    obtain ⟨q, hq, p1, p2⟩ := rider_both (G := G) d3 d4 (sN w.1) 0 0 (g % n) bN (by rw [eN]; omega) (bN_gt (by omega)) (by rw [ecN, hn]; exact Nat.mod_lt _ (by omega)) (by omega)
    obtain ⟨x, hx5, hxe⟩ := want_5 d4.1 hq
    have hbx : bd (wantV (w_si w 1 15 (drw (w.1 1 15))).1 q) 0 5 := by
      rw [hxe]; unfold bd; rw [nI_toInt (by omega)]; omega
    obtain ⟨k1, k2, k3⟩ := j1'.hole (R := R) hbx
    refine ⟨_, _, ?_, fun j => ?_, k1, j2.tr k2, j3.tr k3⟩
    · unfold f_X11_drawPull
      rw [u_ck a1, a2, u_ob, u_ck (cab_t b3), c_aboardBits b3 b4.1 b4.2.1, u_cb, c_bitCount, u_cb, hbc, if_neg z0, u_ck a1, a2, u_ob, u_ob, u_ob, c_nextDraw a1, u_cb, u_ck z1, b1, u_ck (cab_t d3), eg, ec, nI_mod hg (by omega)]
      unfold f_X0_personAboard
      rw [Nat.zero_add, nI_0] at p1
      rw [p1, u_cb, u_ck (cab_t d3), c_wantOf d3 d4.1 hq, u_cb, u_ck (cab_t d3), u_nn]
    · rw [p_ridersMany b4.1, u_cw, if_neg z0, p_ridersMany b4.1, u_cw, p_draws b2 z1, u_cw, eg, ec, nI_mod hg (by omega)]
      unfold p_X12_riderOf
      rw [nI_0] at p2
      rw [p2, u_cw, p_wantOf d4.1 hq, u_cw, u_ck ix_17_13, u_nn, tn_13]
end
