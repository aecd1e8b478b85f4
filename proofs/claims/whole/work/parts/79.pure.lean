/-! PURE 79: force, seed, log, end. -/
section
variable {G : GG} {own : Nat → Nat} {R X c t U : Nat} {h h' : AH} {w w' : MS} {v v' : VV}
def E3 (v v' : VV) : Prop := (∀ i, i < 14 → v' 1 i = v 1 i) ∧ ∀ r, 2 ≤ r → r ≠ 18 → r ≠ 19 → v' r = v r
theorem E3.p3 (e : E3 v v') : PW3 v v' := fun r h1 h2 i hi h => by
  by_cases c : r = 1
  · subst c; exact e.1 i (h rfl)
  · rw [e.2 r (by omega) (by omega) (by omega)]
theorem E3.past (e : E3 v v') (j : Nat) : PW3 (pst v j) (pst v' j) := fun r h1 h2 i hi h => by
  unfold pst
  rw [e.2 53 (by decide) (by decide) (by decide)]
  by_cases c1 : r = 1
  · subst c1
    rw [if_pos rfl, if_pos rfl, e.1 i (h rfl)]
  · rw [if_neg c1, if_neg c1, e.2 r (by omega) (by omega) (by omega)]
theorem Chn.e3 (e : E3 v v') : ∀ {U c : Nat}, Chn own h X t v U c → Chn own h X t v' U c
  | 0, _, _ => trivial
  | U + 1, c, hc => by
    obtain ⟨c', e1, e2, e3, e4, e5⟩ := hc
    exact ⟨c', e1, e2.pw e4.1 (e.past U), e3, e4.pw (e.past U), Chn.e3 e e5⟩
theorem CabD.e3 (e : E3 v v') (hS : St v) (hD : CabD own h X c t v) : CabD own h X c t v' := by
  rcases hD with ⟨a, b, d⟩ | ⟨a, b, d, z⟩
  · exact Or.inl ⟨by rw [e.1 0 (by decide)]; exact a, b.pw hS e.p3, d⟩
  · refine Or.inr ⟨by rw [e.1 0 (by decide)]; exact a, b, d, ?_⟩
    obtain ⟨z1, z2, z3, z4, z5, z6, z7, z8⟩ := z
    exact ⟨z1, z2, z3, z4.pw e.p3 (st_N8 hS) (st_T5 hS) (st_C5 hS), by rw [e.1 13 (by decide)]; exact z5, by rw [e.1 11 (by decide)]; exact z6, by rw [e.1 10 (by decide)]; exact z7, z8.pw e.p3⟩
/-- heaps that differ at the scene's own cells alone -/
def FrS (X : Nat) (h h' : AH) : Prop := Fr (fun a => a = X + 1 ∨ a = X + 2 ∨ a = X + 10 ∨ a = X + 31 ∨ a = X + 32) h h'
theorem FrS.cabD (hF : FrS X h h') (hN : sN v ≤ 8) (hD : CabD own h X c t v) : CabD own h' X c t v := by
  rcases hD with ⟨a, b, d⟩ | ⟨a, b, d, z⟩
  · refine Or.inl ⟨a, b.fr hN hF (fun q hq => ?_), ?_⟩
    · unfold CaD at d; omega
    · unfold CaD at d ⊢; rw [hF.2.2.1]; exact d
  · refine Or.inr ⟨a, b, d, ?_⟩
    obtain ⟨z1, z2, z3, z4, z5, z6, z7, z8⟩ := z
    have e : ∀ q, X + 11 ≤ q → q < X + 31 → m_i h' q = m_i h q := fun q h1 h2 => (hF.2.2.2 q (by omega)).1
    refine ⟨by rw [hF.1]; exact z1, by rw [hF.2.1]; exact z2, z3.hp (fun a _ _ => ⟨by rw [hF.1], by rw [hF.2.1]⟩), z4.hp hN (fun a h1 h2 => e a (by omega) (by omega)), ?_, ?_, ?_, ?_⟩
    · rw [e _ (by omega) (by omega)]; exact z5
    · rw [e _ (by omega) (by omega)]; exact z6
    · rw [e _ (by omega) (by omega)]; exact z7
    · rw [e _ (by omega) (by omega)]; exact z8
theorem FrS.chn (hF : FrS X h h') : ∀ {U c : Nat}, Chn own h X t v U c → Chn own h' X t v U c
  | 0, _, _ => trivial
  | U + 1, c, hc => by
    obtain ⟨c', e1, e2, e3, e4, e5⟩ := hc
    refine ⟨c', by rw [hF.2.1]; exact e1, e2.fr (st_N8 e4.1) hF (fun q hq => ?_), ?_, e4, FrS.chn hF e5⟩
    · unfold CaD at e3; omega
    · unfold CaD at e3 ⊢; rw [hF.2.2.1]; exact e3
theorem FrS.gs (hF : FrS X h h') (hG : GS h X) : GS h' X := by
  obtain ⟨g1, g2, g3, g4, g5, g6, g7, g8⟩ := hG
  unfold GS GA GT GP GC RI CaS at *
  rw [hF.1, hF.2.1, hF.2.2.1]
  exact ⟨g1, g2, g3, g4, g5, g6, g7, g8⟩
theorem FrS.lw (hF : FrS X h h') (hL : LwR own R h X w.1) (e : ∀ k, 43 ≤ k → k ≤ 48 → w'.1 k = w.1 k) : LwR own R h' X w'.1 := by
  intro r hr
  obtain ⟨L, e1, e2, e3, e4, e5, e6⟩ := hL r hr
  refine ⟨L, by rw [hF.2.1]; exact e1, e2.hp (fun a _ _ => by rw [hF.1]) (by rw [hF.2.1]), (e3.cg e).hp (by rw [hF.1]) (hF.2.2.2 (L + 1) (by omega)).1, e4, by rw [hF.2.2.1]; exact e5, e6⟩
theorem FrS.im (hF : FrS X h h') (e : w'.1 81 = w.1 81) (e82 : w'.1 82 = w.1 82) {k : Nat} (hI : ImR own R h X w.1 k) : ImR own R h' X w'.1 k := by
  unfold ImR at hI ⊢
  rw [e82, hF.2.1, hF.2.2.1]
  rcases hI with a | ⟨a, s, U, b, cc, d, f, g, sc⟩
  · exact Or.inl a
  · refine Or.inr ⟨a, s, U, b, cc, d, f, ?_, ?_⟩
    · rw [← g]; unfold img; rw [e]; rfl
    · have hsc : ScR own R h X s (s + 1) (s + 2) (img w'.1 k) U := by
        refine sc.pw (fun r h1 h2 i hi => ?_) (fun n hn => ?_)
        · unfold img
          rw [e]
          by_cases q : r = 1 ∨ r = 2 ∨ r = 3 ∨ r = 4 ∨ r = 5 ∨ r = 6 ∨ r = 7 ∨ r = 8 ∨ r = 9 ∨ r = 10 ∨ r = 11 ∨ r = 12 ∨ r = 13 ∨ r = 14 ∨ r = 15 ∨ r = 16 ∨ r = 17 ∨ r = 18 ∨ r = 19
          · rcases q with q | q | q | q | q | q | q | q | q | q | q | q | q | q | q | q | q | q | q <;> subst q <;> rfl
          · omega
        · unfold img; rw [e]; rfl
      obtain ⟨c, t, s1, s2, s3, s4, s5, s6, s7, s8⟩ := hsc
      have es : m_i h' s = m_i h s := (hF.2.2.2 s (by omega)).1
      refine ⟨c, t, ?_, by rw [hF.2.1]; exact s2, hF.cabD (st_N8 s4.1) s3, s4, ?_, ?_, s7, hF.chn s8⟩
      · unfold ScS at s1 ⊢; rw [hF.1, hF.2.1]; exact s1
      · unfold ScV at s5 ⊢; rw [es]; exact s5
      · unfold LgR at s6 ⊢; rw [es, (hF.2.2.2 (s + 1) (by omega)).1, (hF.2.2.2 (s + 2) (by omega)).1]; exact s6
theorem FrS.kp (hF : FrS X h h') : Kp X h h' := ⟨by rw [hF.2.2.1]; exact Nat.le_refl _, fun a h1 h2 => ⟨by rw [hF.1], by rw [hF.2.1], (hF.2.2.2 a (by omega)).1, (hF.2.2.2 a (by omega)).2⟩⟩
/-- what changes the scene's numbers alone -/
theorem RelO.sc (hR : RelO own R h X w) (hcur : Cur own R h X w U c t) (hF : FrS X h h') (e : E3 w.1 w'.1) (e0 : ∀ k, k = 36 ∨ k = 41 ∨ k = 55 → w'.1 0 k = w.1 0 k) (hx : m_i h' X = m_i h X) (hV : ScV R h' (X + 10) w'.1 U) (hL : LgR h' (X + 10) (X + 31) (X + 32) w'.1) (hT : TaR h' X w') : RelO own R h' X w' := by
  obtain ⟨g, -, r, l, -, i⟩ := hR
  obtain ⟨hB, hSt, hD, -, hU, -, hU0, hc, hs⟩ := hcur
  refine ⟨hF.gs g, hT, ⟨r.1, by rw [e0 36 (Or.inl rfl)]; exact r.2.1, by rw [hx]; exact r.2.2.1, by rw [e0 41 (by omega)]; exact r.2.2.2⟩, hF.lw l (fun k h1 h2 => e.2 k (by omega) (by omega) (by omega)), ⟨U, by rw [e0 55 (by omega)]; exact hU, c, t, ?_, by rw [hF.2.1]; exact hB.1.2.2.2.1, hF.cabD (by unfold sN; rw [e.1 6 (by decide)]; exact st_N8 hSt.1) (hD.e3 e hSt.1), hSt.pw e.p3, hV, hL, by rw [e.1 0 (by decide)]; exact hU0, hF.chn (hc.e3 e)⟩, fun k hk => hF.im (e.2 81 (by decide) (by decide) (by decide)) (e.2 82 (by decide) (by decide) (by decide)) (i k hk)⟩
  unfold ScS at hs ⊢; rw [hF.1, hF.2.1]; exact hs
theorem TaR.fr (hT : TaR h X w) (e1 : m_i h' (X + 1) = m_i h (X + 1)) (e2 : m_i h' (X + 2) = m_i h (X + 2)) (e3 : w'.1 0 32 = w.1 0 32) (e4 : w'.1 42 = w.1 42) : TaR h' X w' := by
  unfold TaR at hT ⊢; rw [e1, e2, e3, e4]; exact hT
theorem call_seed (x : Int32) : Call X (f_X11_seed G X x) (p_X12_seed G x) := by
  intro h w ⟨own, R, hR⟩
  obtain ⟨U, c, t, hc⟩ := hR.cur
  have hB := hc.1
  have hV := hc.2.2.2.1
  have hL := hc.2.2.2.2.2.1
  unfold f_X11_seed p_X12_seed
  by_cases h0 : 0 ≤ x
  · rw [if_pos h0, if_pos h0, u_ck hB.1.1, hB.1.2.1, u_ob, u_ck hB.1.2.2.1, u_nn, u_ob, u_ck hB.1.2.2.1, u_nn, u_ck ix_17_15, u_nn, u_ck ix_17_15, u_nn, tn_15, hV.2.2.2.2.1]
    have hF : FrS X h (m_si h (X + 10) 3 x) := Fr.si (by omega)
    refine ⟨_, _, _, rfl, rfl, ⟨own, R, hR.sc hc hF ⟨fun i hi => by rw [w_si_j (by omega)], fun r h1 _ _ => w_si_r (by omega)⟩ (fun k _ => by rw [w_si_r (by decide)]) (m_i_sb (by omega)) ?_ ?_ (hR.2.1.fr (m_i_sb (by omega)) (m_i_sb (by omega)) (by rw [w_si_r (by decide)]) (w_si_r (by decide)))⟩, hF.kp⟩
    · unfold ScV at hV ⊢
      rw [m_i_sj (show 1 ≠ 3 by decide), m_i_sj (show 2 ≠ 3 by decide), m_i_ss, w_si_s, w_si_j (show 16 ≠ 15 by decide)]
      exact ⟨hV.1, hV.2.1, hV.2.2.1, hV.2.2.2.1, rfl, h0⟩
    · unfold LgR at hL ⊢
      rw [w_si_j (show 14 ≠ 15 by decide), m_i_sj (show 4 ≠ 3 by decide), m_i_sb (show X + 31 ≠ X + 10 by omega), m_i_sb (show X + 32 ≠ X + 10 by omega), w_si_r (show 18 ≠ 1 by decide), w_si_r (show 19 ≠ 1 by decide)]
      exact hL
  · rw [if_neg h0, if_neg h0]; exact ⟨_, _, _, rfl, rfl, ⟨own, R, hR⟩, Kp.rf⟩
theorem c_hasLaw (hX : m_t h X = .inl 11) (h4 : m_i h X 4 = nI R) (hR6 : R ≤ 6) (x : Int32) : f_X11_hasLaw G X x h = some (if 0 ≤ x ∧ x ≤ nI R - 1 then 1 else 0, h) := by
  have h2 : (nI R - 1).toInt = (R : Int) - 1 := by
    have := nI_toInt (n := R) (by omega)
    rw [I_sub (by rw [this]; simp; omega) (by rw [this]; simp; omega), this]; rfl
  unfold f_X11_hasLaw
  rw [u_ck hX, h4, rng_le (N := nI R - 1) (by rw [h2, nI_toInt (by omega)]; omega)]
  split <;> rfl
theorem law_in (hR6 : R ≤ 6) {x : Int32} (hx : 0 ≤ x ∧ x ≤ nI R - 1) : ∃ r, r < R ∧ x = nI r := by
  have h2 : (nI R - 1).toInt = (R : Int) - 1 := by
    have := nI_toInt (n := R) (by omega)
    rw [I_sub (by rw [this]; simp; omega) (by rw [this]; simp; omega), this]; rfl
  have h3 := hx.1; have h4 := hx.2
  rw [I_le] at h3 h4
  have i0 : (0 : Int32).toInt = 0 := rfl
  obtain ⟨k, h5, h6⟩ := bd_nI (x := x) (b := R - 1) ⟨by omega, by omega⟩
  have h7 : x.toInt = k := by rw [h6]; exact nI_toInt (by omega)
  exact ⟨k, by omega, h6⟩
theorem in_m1 (hR6 : R ≤ 6) (x : Int32) : ((-1 : Int32) ≤ x ∧ x ≤ nI R - 1) ↔ (x = -1 ∨ (0 ≤ x ∧ x ≤ nI R - 1)) := by
  have h2 : (nI R - 1).toInt = (R : Int) - 1 := by
    have := nI_toInt (n := R) (by omega)
    rw [I_sub (by rw [this]; simp; omega) (by rw [this]; simp; omega), this]; rfl
  have i1 : (-1 : Int32).toInt = -1 := rfl
  have i0 : (0 : Int32).toInt = 0 := rfl
  rw [I_le, I_le, I_le, I_eq, i1, i0, h2]
  omega
theorem call_force (x : Int32) : Call X (f_X11_force G X x) (p_X12_force G x) := by
  intro h w ⟨own, R, hR⟩
  obtain ⟨U, c, t, hc⟩ := hR.cur
  have hB := hc.1
  have hV := hc.2.2.2.1
  have hL := hc.2.2.2.2.2.1
  have hr := hR.2.2.1
  unfold f_X11_force p_X12_force
  have pin : p_X12_in G x.toInt64 (-1 : Int64) ((w.1 0 36 - 1).toInt64) w = some (if (-1 : Int32) ≤ x ∧ x ≤ w.1 0 36 - 1 then 1 else 0, w) := p_in_i G x (-1) (w.1 0 36 - 1) w
  rw [u_nn, pin, u_cw, hr.2.1]
  have yes : (x = -1 ∨ (0 ≤ x ∧ x ≤ nI R - 1)) → ∃ r h' w', (ck (m_t h X = .inl 11) <| ob (m_r h X 5) fun b2 => ck (m_t h b2 = .inl 6) <| nn (m_i h b2 2) fun x4 => ob (m_r h X 5) fun b5 => ck (m_t h b5 = .inl 6) <| nn (m_si h b5 2 x) fun h7 => some (x4, h7)) = some (r, h') ∧ (ck (ixn 17 (16 : Int32) = true) <| nn (w.1 1 (16 : Int32).toNatClampNeg) fun x6 => ck (ixn 17 (16 : Int32) = true) <| nn (w_si w 1 (16 : Int32).toNatClampNeg x) fun w8 => some (x6, w8)) = some (r, w') ∧ Rel h' X w' ∧ Kp X h h' := by
    intro hx
    rw [u_ck hB.1.1, hB.1.2.1, u_ob, u_ck hB.1.2.2.1, u_nn, u_ob, u_ck hB.1.2.2.1, u_nn, u_ck ix_17_16, u_nn, u_ck ix_17_16, u_nn, tn_16, hV.2.2.1]
    have hF : FrS X h (m_si h (X + 10) 2 x) := Fr.si (by omega)
    refine ⟨_, _, _, rfl, rfl, ⟨own, R, hR.sc hc hF ⟨fun i hi => by rw [w_si_j (by omega)], fun r h1 _ _ => w_si_r (by omega)⟩ (fun k _ => by rw [w_si_r (by decide)]) (m_i_sb (by omega)) ?_ ?_ (hR.2.1.fr (m_i_sb (by omega)) (m_i_sb (by omega)) (by rw [w_si_r (by decide)]) (w_si_r (by decide)))⟩, hF.kp⟩
    · unfold ScV at hV ⊢
      rw [m_i_sj (show 1 ≠ 2 by decide), m_i_sj (show 3 ≠ 2 by decide), m_i_ss, w_si_s, w_si_j (show 15 ≠ 16 by decide)]
      refine ⟨hV.1, hV.2.1, rfl, ?_, hV.2.2.2.2⟩
      rcases hx with hx | hx
      · exact Or.inl hx
      · exact Or.inr (law_in hr.1 hx)
    · unfold LgR at hL ⊢
      rw [w_si_j (show 14 ≠ 16 by decide), m_i_sj (show 4 ≠ 2 by decide), m_i_sb (show X + 31 ≠ X + 10 by omega), m_i_sb (show X + 32 ≠ X + 10 by omega), w_si_r (show 18 ≠ 1 by decide), w_si_r (show 19 ≠ 1 by decide)]
      exact hL
  by_cases h1 : x = -1
  · rw [if_pos h1, if_pos ((in_m1 hr.1 x).mpr (Or.inl h1)), if_neg n10]
    exact yes (Or.inl h1)
  · rw [if_neg h1, u_ck hB.1.1, c_hasLaw hB.1.1 hr.2.2.1 hr.1, u_cb]
    by_cases h2 : 0 ≤ x ∧ x ≤ nI R - 1
    · rw [if_pos h2, if_neg n10, if_pos ((in_m1 hr.1 x).mpr (Or.inr h2)), if_neg n10]
      exact yes (Or.inr h2)
    · rw [if_neg h2, if_pos rfl, if_neg (fun q => ((in_m1 hr.1 x).mp q).elim h1 h2), if_pos rfl]
      exact ⟨_, _, _, rfl, rfl, ⟨own, R, hR⟩, Kp.rf⟩
theorem call_end (x : Int32) : Call X (f_X11_end G X x) (p_X12_end G x) := by
  intro h w ⟨own, R, hR⟩
  obtain ⟨U, c, t, hc⟩ := hR.cur
  have hB := hc.1
  have hV := hc.2.2.2.1
  have hL := hc.2.2.2.2.2.1
  have r0 := hR.1.1.2.1
  have tp : m_t h (X + 1) = .inl 8 := hR.1.2.1.1 (0, .inl 8) (by simp [rT])
  obtain ⟨n, hn, t1, t2, t3⟩ := hR.2.1
  unfold f_X11_end p_X12_end
  by_cases h0 : x < 0
  · rw [if_pos h0, if_pos h0]; exact ⟨_, _, _, rfl, rfl, ⟨own, R, hR⟩, Kp.rf⟩
  · rw [if_neg h0, if_neg h0, u_ck hB.1.1, r0, u_ob, u_ck tp, t2, t1]
    by_cases h1 : x ≤ nI n
    · rw [if_pos h1, u_ob, u_ck tp, u_nn]
      obtain ⟨k, hk, rfl⟩ := nI_of h0
      have hkn : k ≤ n := (nI_leI hk (by omega)).mp h1
      have hF : FrS X h (m_si h (X + 1) 1 (nI k)) := Fr.si (by omega)
      first
        | rw [if_pos h1]
        | skip
      refine ⟨nI k, m_si h (X + 1) 1 (nI k), w_si w 0 32 (nI k), rfl, ?_, ⟨own, R, hR.sc hc hF ⟨fun i hi => by rw [w_si_r (by decide)], fun r h1 _ _ => w_si_r (by omega)⟩ (fun k hk => by rw [w_si_j (by omega)]) (m_i_sb (by omega)) ?_ ?_ ?_⟩, hF.kp⟩
      · rfl
      · unfold ScV at hV ⊢
        rw [m_i_sb (show X + 10 ≠ X + 1 by omega), w_si_r (show 1 ≠ 0 by decide)]
        exact hV
      · unfold LgR at hL ⊢
        rw [m_i_sb (show X + 10 ≠ X + 1 by omega), m_i_sb (show X + 31 ≠ X + 1 by omega), m_i_sb (show X + 32 ≠ X + 1 by omega), w_si_r (show 1 ≠ 0 by decide), w_si_r (show 18 ≠ 0 by decide), w_si_r (show 19 ≠ 0 by decide)]
        exact hL
      · exact ⟨k, by omega, w_si_s _ _ _ _, m_i_ss _ _ _ _, fun i hi => by rw [m_i_sb (by omega), w_si_r (by decide)]; exact t3 i (by omega)⟩
    · rw [if_neg h1]
      first
        | rw [if_neg h1]
        | skip
      exact ⟨_, _, _, rfl, rfl, ⟨own, R, hR⟩, Kp.rf⟩
end
