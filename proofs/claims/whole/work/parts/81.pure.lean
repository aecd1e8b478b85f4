/-! PURE 81: frames over what was there; an act. -/
section
variable {G : GG} {own own' : Nat → Nat} {R X c t U : Nat} {h h1 h' : AH} {w w2 : MS} {v v' v0 : VV} {Ex : Nat → Prop}
/-- what lies behind the fixed cells stays, but for scratch and what is excepted -/
def FrD (X R : Nat) (Ex : Nat → Prop) (h h1 : AH) : Prop := m_n h ≤ m_n h1 ∧ ∀ a, X + 122 ≤ a → a < m_n h → m_t h1 a = m_t h a ∧ (¬ Ex a → m_r h1 a = m_r h a ∧ (¬ Scr X R h a → m_i h1 a = m_i h a))
def ExO (own : Nat → Nat) (h : AH) (Ex : Nat → Prop) : Prop := ∀ a, Ex a → m_t h (own a) = .inl 6
theorem no_scr' (hL : LwR own R h X v0) {b a : Nat} (hb : X + 122 ≤ a) (ho : own a = b) (hn : m_t h b ≠ .inl 2) : ¬ Scr X R h a := no_scr (w := (v0, fun _ _ => 0)) hL hb ho hn
theorem Cab.frd (hC : Cab h c t v) (hN : sN v ≤ 8) (hD : CaD own h X c t) (hL : LwR own R h X v0) (hE : ExO own h Ex) (hF : FrD X R Ex h h1) : Cab h1 c t v := by
  have hc := cab_t hC
  have ht := tr_t hC
  refine hC.hp hN (fun a ha => ?_)
  have key : ∀ b, own a = b → (m_t h b = .inl 0 ∨ m_t h b = .inl 9) → X + 122 ≤ a → a < m_n h → m_t h1 a = m_t h a ∧ m_r h1 a = m_r h a ∧ m_i h1 a = m_i h a := fun b ho hb hx hn => by
    have h1' := hF.2 a hx hn
    have ne : ¬ Ex a := fun q => by
      have := hE a q
      rw [ho] at this
      rcases hb with hb | hb <;> rw [hb] at this <;> exact absurd this (by decide)
    have ns : ¬ Scr X R h a := no_scr' hL hx ho (by rcases hb with hb | hb <;> rw [hb] <;> decide)
    exact ⟨h1'.1, (h1'.2 ne).1, (h1'.2 ne).2 ns⟩
  rcases ha with ha | ha
  · exact key c (hD.2.2.1 a ha.1 ha.2) (Or.inl hc) (by have := hD.1; omega) (by have := hD.2.1; omega)
  · exact key t (hD.2.2.2.2.2 a ha.1 ha.2) (Or.inr ht) (by have := hD.2.2.2.1; omega) (by have := hD.2.2.2.2.1; omega)
theorem CaD.frd (hD : CaD own h X c t) (hF : FrD X R Ex h h1) (ho : ∀ a, a < m_n h → own' a = own a) : CaD own' h1 X c t := by
  obtain ⟨d1, d2, d3, d4, d5, d6⟩ := hD
  have := hF.1
  exact ⟨d1, by omega, fun a q1 q2 => by rw [ho a (by omega)]; exact d3 a q1 q2, d4, by omega, fun a q1 q2 => by rw [ho a (by omega)]; exact d6 a q1 q2⟩
theorem Chn.frd (hL : LwR own R h X v0) (hE : ExO own h Ex) (hF : FrD X R Ex h h1) (ho : ∀ a, a < m_n h → own' a = own a) : ∀ {U c : Nat}, Chn own h X t v U c → (U = 0 ∨ (CaD own h X c t ∧ m_t h c = .inl 0)) → Chn own' h1 X t v U c
  | 0, _, _, _ => trivial
  | U + 1, c, hc, hb => by
    obtain ⟨c', e1, e2, e3, e4, e5⟩ := hc
    obtain ⟨hD, hct⟩ := hb.resolve_left (by omega)
    have ne : ¬ Ex c := fun q => by
      have := hE c q
      rw [hD.2.2.1 c (by omega) (by omega), hct] at this; exact absurd this (by decide)
    exact ⟨c', by rw [((hF.2 c hD.1 (by have := hD.2.1; omega)).2 ne).1]; exact e1, e2.frd (st_N8 e4.1) e3 hL hE hF, e3.frd hF ho, e4, Chn.frd hL hE hF ho e5 (Or.inr ⟨e3, cab_t e2⟩)⟩
theorem LwR.frd (hL : LwR own R h X v) (hE : ExO own h Ex) (hF : FrD X R Ex h h1) (ho : ∀ a, a < m_n h → own' a = own a) (h9 : ∀ r, r < R → m_r h1 (X + 9) r = m_r h (X + 9) r) (e : ∀ k, 43 ≤ k → k ≤ 48 → v' k = v k) : LwR own' R h1 X v' := by
  intro r hr
  obtain ⟨L, e1, e2, e3, e4, e5, e6⟩ := hL r hr
  have ne : ∀ a, L ≤ a → a < L + 4 → ¬ Ex a := fun a q1 q2 q => by
    have := hE a q
    rw [e6 a q1 q2, e2.1] at this; exact absurd this (by decide)
  have f := fun a (q1 : L ≤ a) (q2 : a < L + 4) => hF.2 a (by omega) (by omega)
  refine ⟨L, by rw [h9 r hr]; exact e1, e2.hp (fun a q1 q2 => (f a q1 q2).1) ((f L (by omega) (by omega)).2 (ne L (by omega) (by omega))).1, (e3.cg e).hp (f (L + 1) (by omega) (by omega)).1 ?_, e4, by have := hF.1; omega, fun a q1 q2 => by rw [ho a (by omega)]; exact e6 a q1 q2⟩
  exact ((f (L + 1) (by omega) (by omega)).2 (ne (L + 1) (by omega) (by omega))).2 (no_scr_code (w := (v, fun _ _ => 0)) hL hr e1)
/-- the fixed cells keep their shape -/
def FrX (X : Nat) (h h1 : AH) : Prop := (∀ a, X ≤ a → a < X + 59 → m_t h1 a = m_t h a) ∧ (∀ a, X ≤ a → a < X + 59 → a ≠ X + 9 → a ≠ X + 10 → a ≠ X + 33 → a ≠ X + 34 → m_r h1 a = m_r h a) ∧ (∀ k, 0 < k → m_r h1 (X + 10) k = m_r h (X + 10) k) ∧ (∀ k, 6 ≤ k → m_r h1 (X + 34) k = m_r h (X + 34) k) ∧ (∀ a, X + 11 ≤ a → a < X + 27 → m_i h1 a = m_i h a) ∧ ∀ a, X + 59 ≤ a → a < X + 122 → m_t h1 a = m_t h a ∧ m_r h1 a = m_r h a ∧ m_i h1 a = m_i h a ∧ m_l h1 a = m_l h a
theorem FrX.gs (hF : FrX X h h1) (hn : m_n h ≤ m_n h1) (hG : GS h X) : GS h1 X := by
  obtain ⟨g1, g2, g3, g4, g5, g6, g7, g8⟩ := hG
  have T := hF.1
  have Rr := hF.2.1
  refine ⟨?_, ?_, ?_, ?_, ?_, ?_, ?_, by omega⟩
  · unfold GA at g1 ⊢; rw [T X (by omega) (by omega), Rr X (by omega) (by omega) (by omega) (by omega) (by omega) (by omega)]; exact g1
  · refine ⟨fun q hq => ?_, fun q hq => ?_⟩
    · have : q.1 < 8 := by simp [rT] at hq; rcases hq with rfl | rfl | rfl | rfl | rfl | rfl | rfl | rfl <;> decide
      rw [T _ (by omega) (by omega)]; exact g2.1 q hq
    · have : q.1 < 8 := by revert hq; revert q; decide
      rw [Rr _ (by omega) (by omega) (by omega) (by omega) (by omega) (by omega)]; exact g2.2 q hq
  · rw [T _ (by omega) (by omega), T _ (by omega) (by omega), T _ (by omega) (by omega)]; exact g3
  · exact g4.hp (fun a _ _ => T a (by omega) (by omega)) hF.2.2.2.1
  · unfold GT at g5 ⊢; rw [T _ (by omega) (by omega), T _ (by omega) (by omega), T _ (by omega) (by omega), T _ (by omega) (by omega), T _ (by omega) (by omega), Rr _ (by omega) (by omega) (by omega) (by omega) (by omega) (by omega)]; exact g5
  · unfold GP at g6 ⊢
    rw [T _ (by omega) (by omega), T _ (by omega) (by omega), T _ (by omega) (by omega), T _ (by omega) (by omega), T _ (by omega) (by omega), T _ (by omega) (by omega), T _ (by omega) (by omega), T _ (by omega) (by omega), T _ (by omega) (by omega), T _ (by omega) (by omega), Rr _ (by omega) (by omega) (by omega) (by omega) (by omega) (by omega)]; exact g6
  · unfold GC at g7 ⊢; rw [T _ (by omega) (by omega), T _ (by omega) (by omega), T _ (by omega) (by omega), T _ (by omega) (by omega), Rr _ (by omega) (by omega) (by omega) (by omega) (by omega) (by omega)]; exact g7
theorem FrX.kp (hF : FrX X h h1) (hn : m_n h ≤ m_n h1) : Kp X h h1 := ⟨hn, hF.2.2.2.2.2⟩
theorem FrX.cab0 (hF : FrX X h h1) (hN : sN v ≤ 8) (z : Cab0 h X v) : Cab0 h1 X v := by
  obtain ⟨z1, z2, z3, z4, z5, z6, z7, z8⟩ := z
  have e := hF.2.2.2.2.1
  have T := hF.1
  have Rr := hF.2.1
  refine ⟨by rw [T _ (by omega) (by omega)]; exact z1, by rw [Rr _ (by omega) (by omega) (by omega) (by omega) (by omega) (by omega)]; exact z2, z3.hp (fun a _ _ => ⟨T a (by omega) (by omega), Rr a (by omega) (by omega) (by omega) (by omega) (by omega) (by omega)⟩), z4.hp hN (fun a h1 h2 => e a (by omega) (by omega)), ?_, ?_, ?_, ?_⟩
  · rw [e _ (by omega) (by omega)]; exact z5
  · rw [e _ (by omega) (by omega)]; exact z6
  · rw [e _ (by omega) (by omega)]; exact z7
  · rw [e _ (by omega) (by omega)]; exact z8
theorem CabD.frd (hD : CabD own h X c t v) (hN : sN v ≤ 8) (hL : LwR own R h X v0) (hE : ExO own h Ex) (hF : FrD X R Ex h h1) (hX : FrX X h h1) (ho : ∀ a, a < m_n h → own' a = own a) : CabD own' h1 X c t v := by
  rcases hD with ⟨a, b, d⟩ | ⟨a, b, d, e⟩
  · exact Or.inl ⟨a, b.frd hN d hL hE hF, d.frd hF ho⟩
  · exact Or.inr ⟨a, b, d, hX.cab0 hN e⟩
/-- an image -/
theorem ScR.frd {s : Nat} (hS : ScR own R h X s (s + 1) (s + 2) v U) (hs : X + 122 ≤ s ∧ s + 3 ≤ m_n h) (hos : ∀ a, s ≤ a → a < s + 3 → own a = s) (hL : LwR own R h X v0) (hE : ExO own h Ex) (hF : FrD X R Ex h h1) (hX : FrX X h h1) (ho : ∀ a, a < m_n h → own' a = own a) (hne : ∀ a, s ≤ a → a < s + 3 → ¬ Ex a) : ScR own' R h1 X s (s + 1) (s + 2) v U := by
  obtain ⟨c, t, s1, s2, s3, s4, s5, s6, s7, s8⟩ := hS
  have hst : m_t h s ≠ .inl 2 := by rw [s1.1]; decide
  have f := fun a (q1 : s ≤ a) (q2 : a < s + 3) => hF.2 a (by omega) (by omega)
  have fr := fun a (q1 : s ≤ a) (q2 : a < s + 3) => (f a q1 q2).2 (hne a q1 q2)
  have fi := fun a (q1 : s ≤ a) (q2 : a < s + 3) => (fr a q1 q2).2 (no_scr' hL (by omega) (hos a q1 q2) hst)
  refine ⟨c, t, ?_, by rw [(fr s (by omega) (by omega)).1]; exact s2, s3.frd (st_N8 s4.1) hL hE hF hX ho, s4, ?_, ?_, s7, s8.frd hL hE hF ho ?_⟩
  · unfold ScS at s1 ⊢; rw [(f s (by omega) (by omega)).1, (f (s + 1) (by omega) (by omega)).1, (f (s + 2) (by omega) (by omega)).1, (fr s (by omega) (by omega)).1]; exact s1
  · unfold ScV at s5 ⊢; rw [fi s (by omega) (by omega)]; exact s5
  · unfold LgR at s6 ⊢; rw [fi s (by omega) (by omega), fi (s + 1) (by omega) (by omega), fi (s + 2) (by omega) (by omega)]; exact s6
  · rcases s3 with ⟨a, b, d⟩ | ⟨a, b, d, e⟩
    · exact Or.inr ⟨d, cab_t b⟩
    · exact Or.inl (s7 a)
theorem img_pw (k : Nat) (e : v' 81 = v 81) : PW (img v k) (img v' k) ∧ (∀ n, img v' k 53 n = img v k 53 n) ∧ img v' k 54 0 = img v k 54 0 := by
  refine ⟨fun r h1 h2 i hi => ?_, fun n => ?_, ?_⟩
  · unfold img
    rw [e]
    have q : r = 1 ∨ r = 2 ∨ r = 3 ∨ r = 4 ∨ r = 5 ∨ r = 6 ∨ r = 7 ∨ r = 8 ∨ r = 9 ∨ r = 10 ∨ r = 11 ∨ r = 12 ∨ r = 13 ∨ r = 14 ∨ r = 15 ∨ r = 16 ∨ r = 17 ∨ r = 18 ∨ r = 19 := by omega
    rcases q with q | q | q | q | q | q | q | q | q | q | q | q | q | q | q | q | q | q | q <;> subst q <;> rfl
  · unfold img; rw [e]; rfl
  · unfold img; rw [e]; rfl
theorem ImR.frd {k : Nat} (hI : ImR own R h X v k) (hL : LwR own R h X v0) (hF : FrD X R (fun _ => False) h h1) (hX : FrX X h h1) (ho : ∀ a, a < m_n h → own' a = own a) (h33 : m_r h1 (X + 33) = m_r h (X + 33)) (e : v' 81 = v 81) (e82 : v' 82 k = v 82 k) : ImR own' R h1 X v' k := by
  unfold ImR at hI ⊢
  rw [e82, h33]
  obtain ⟨p1, p2, p3⟩ := img_pw (v := v) (v' := v') k e
  rcases hI with a | ⟨a, s, U, b, cc, d, f, g, sc⟩
  · exact Or.inl a
  · refine Or.inr ⟨a, s, U, b, cc, by have := hF.1; omega, ⟨fun q q1 q2 => by rw [ho q (by omega)]; exact f.1 q q1 q2, f.2⟩, by rw [p3]; exact g, ?_⟩
    exact (sc.pw p1 (fun n _ => p2 n)).frd ⟨cc, d⟩ f.1 hL (fun _ q => q.elim) hF hX ho (fun _ _ _ q => q)
/-- the chain, one dropped -/
theorem Chn.sh {D : Nat} (e : ∀ j, PW3 (pst v (j + D)) (pst v' j) ∨ True) (n : Nat) (hp : ∀ j, j < n → PW3 (pst v (j + D)) (pst v' j)) : ∀ {c : Nat}, Chn own h X t v (n + D) c → Chn own h X t v' n c := by
  induction n with
  | zero => intro c _; trivial
  | succ n ih =>
    intro c hc
    rw [show n + 1 + D = n + D + 1 by omega] at hc
    obtain ⟨c', e1, e2, e3, e4, e5⟩ := hc
    have ep := hp n (by omega)
    exact ⟨c', e1, e2.pw e4.1 ep, e3, e4.pw ep, ih (fun j hj => hp j (by omega)) e5⟩
/-- a new cabin stands behind the one there was -/
theorem RelO.act (hR : RelO own R h X w) (hcur : Cur own R h X w U c t) (told : w.1 1 0 = 1) (hD : FrD X R (fun _ => False) h h1) (hX : FrX X h h1) (hn5 : m_n h + 5 ≤ m_n h1) (h9 : m_r h1 (X + 9) = m_r h (X + 9)) (h33 : m_r h1 (X + 33) = m_r h (X + 33)) (i1 : m_i h1 (X + 1) = m_i h (X + 1)) (i2 : m_i h1 (X + 2) = m_i h (X + 2)) (i31 : m_i h1 (X + 31) = m_i h (X + 31)) (i32 : m_i h1 (X + 32) = m_i h (X + 32)) (ix : m_i h1 X 4 = m_i h X 4) (i10 : ∀ k, k ≠ 1 → m_i h1 (X + 10) k = m_i h (X + 10) k) (iu : m_i h1 (X + 10) 1 = nI (min 20 (U + 1))) (rc : m_r h1 (X + 10) 0 = some (m_n h)) (rb : m_r h1 (m_n h) 1 = some c) (hC1 : Cab h1 (m_n h) t w2.1) (hS2 : Sta w2.1) (e32 : w2.1 0 32 = w.1 0 32) (e36 : w2.1 0 36 = w.1 0 36) (e41 : w2.1 0 41 = w.1 0 41) (e55 : w2.1 0 55 = nI (min 20 (U + 1))) (hst : stat w.1 w2.1) (er : ∀ r, 42 ≤ r → r ≠ 52 → r ≠ 53 → w2.1 r = w.1 r) (p1 : ∀ n, n < 51 → w2.1 53 (51 * (min 20 (U + 1) - 1) + n) = pickS 53 sgP (51 * (min 20 (U + 1) - 1)) w.1 (51 * (min 20 (U + 1) - 1) + n)) (p2 : ∀ j n, j < min 20 (U + 1) - 1 → n < 51 → w2.1 53 (51 * j + n) = w.1 53 (51 * (j + (U + 1 - min 20 (U + 1))) + n)) : ∃ own', RelO own' R h1 X w2 := by
  obtain ⟨g, ta, r, l, -, i⟩ := hR
  obtain ⟨hB, hSt, hCD, hV, hU, hLg, hU0, hch, hss⟩ := hcur
  obtain ⟨hC, hCa⟩ := hCD.cab told
  have ho : ∀ a, a < m_n h → (fun a => if m_n h ≤ a then m_n h else own a) a = own a := fun a ha => if_neg (by omega)
  have hnE : ExO own h (fun _ => False) := fun _ q => q.elim
  have hCa1 := hCa.frd hD ho
  have hg8 := g.2.2.2.2.2.2.2
  have hCaN : CaD (fun a => if m_n h ≤ a then m_n h else own a) h1 X (m_n h) t := ⟨hg8, hn5, fun a q1 q2 => if_pos q1, hCa1.2.2.2.1, hCa1.2.2.2.2.1, hCa1.2.2.2.2.2⟩
  refine ⟨fun a => if m_n h ≤ a then m_n h else own a, hX.gs hD.1 g, ta.fr i1 i2 e32 (er 42 (by decide) (by decide) (by decide)), ⟨r.1, by rw [e36]; exact r.2.1, by rw [ix]; exact r.2.2.1, by rw [e41]; exact r.2.2.2⟩, l.frd hnE hD ho (fun _ _ => by rw [h9]) (fun k q1 q2 => er k (by omega) (by omega) (by omega)), ⟨min 20 (U + 1), e55, m_n h, t, ?_, rc, Or.inl ⟨by rw [hst.1 0 (by decide)]; exact told, hC1, hCaN⟩, hS2, ?_, ?_, fun q => absurd told (by rw [← hst.1 0 (by decide), q]; decide), ?_⟩, fun k hk => (i k hk).frd l hD hX ho (by rw [h33]) (er 81 (by decide) (by decide) (by decide)) (by rw [er 82 (by decide) (by decide) (by decide)])⟩
  · unfold ScS at hss ⊢
    rw [hX.1 _ (by omega) (by omega), hX.1 _ (by omega) (by omega), hX.1 _ (by omega) (by omega), hX.2.2.1 5 (by decide), hX.2.2.1 6 (by decide)]; exact hss
  · unfold ScV at hV ⊢
    rw [iu, i10 2 (by decide), i10 3 (by decide), hst.2.1 15 (by decide) (by decide), hst.2.1 16 (by decide) (by decide)]
    exact ⟨rfl, by omega, hV.2.2⟩
  · obtain ⟨gg, g1, g2, g3, g4⟩ := hLg
    refine ⟨gg, g1, by rw [hst.2.1 14 (by decide) (by decide)]; exact g2, by rw [i10 4 (by decide)]; exact g3, fun k hk => ?_⟩
    rw [i31, i32, hst.2.2 18 (by omega) k (by show k < 10; omega), hst.2.2 19 (by omega) k (by show k < 10; omega)]; exact g4 k hk
  · obtain ⟨m, hm⟩ : ∃ m, min 20 (U + 1) = m + 1 := ⟨min 20 (U + 1) - 1, by omega⟩
    rw [hm] at p1 p2 ⊢
    simp only [Nat.add_sub_cancel] at p1 p2
    have ew : PW w.1 (pst w2.1 m) := pst_pick hst p1
    have hU20 := hV.2.1
    refine ⟨c, rb, (hC.frd (st_N8 hSt.1) hCa l hnE hD).pw hSt.1 ew.p3, hCa1, hSt.pw ew.p3, ?_⟩
    have hsh : Chn own h X t w2.1 m c := Chn.sh (D := U + 1 - (m + 1)) (fun _ => Or.inr trivial) m (fun j hj => (pst_cg hst (fun n hn => p2 j n hj hn)).p3) (by rw [show m + (U + 1 - (m + 1)) = U by omega]; exact hch)
    exact hsh.frd l hnE hD ho (Or.inr ⟨hCa, cab_t hC⟩)
/-- the class makes a new cabin for an act -/
theorem c_act (hC : Cab h c t v) (hN : sN v ≤ 8) (hCa : CaD own h X c t) (hs : m_t h (X + 10) = .inl 6) (hsc : m_r h (X + 10) 0 = some c) (hu : m_i h (X + 10) 1 = nI U) (hU : U ≤ 20) (hX : X + 122 ≤ m_n h) : ∃ h', f_X6_act G (X + 10) h = some (m_n h, h') ∧ m_n h' = m_n h + 5 ∧ (∀ a, a < m_n h → m_t h' a = m_t h a ∧ m_l h' a = m_l h a ∧ (a ≠ X + 10 → m_r h' a = m_r h a ∧ m_i h' a = m_i h a)) ∧ (∀ k, k ≠ 0 → m_r h' (X + 10) k = m_r h (X + 10) k) ∧ m_r h' (X + 10) 0 = some (m_n h) ∧ (∀ k, k ≠ 1 → m_i h' (X + 10) k = m_i h (X + 10) k) ∧ m_i h' (X + 10) 1 = nI (min 20 (U + 1)) ∧ m_r h' (m_n h) 1 = some c ∧ Cab h' (m_n h) t v := by
  obtain ⟨ha, a1, a2, a3, a4, a5, -, -⟩ := c_cabinit (G := G) h t
  have hc5 := hCa.2.1
  have ht5 := hCa.2.2.2.2.1
  have hCh : Cab ha c t v := hC.hp hN (fun a q => by
    have := a3 a (by omega)
    exact ⟨this.1, this.2.1, this.2.2.1⟩)
  obtain ⟨hb, b1, b2, b3, b4, b5, b6, b7, b8, b9⟩ := c_copyFrom (G := G) (c1 := m_n h) hCh hN a4 (Or.inr (by omega)) (Or.inr (by omega))
  let hc := m_sr (m_sr hb (m_n h) 1 (some c)) (X + 10) 0 (some (m_n h))
  have o10 : m_i hb (X + 10) = m_i h (X + 10) := by rw [b8 (X + 10) (by omega), (a3 (X + 10) (by omega)).2.2.1]
  have umin : (if nI U + 1 < (20 : Int32) then nI U + 1 else (20 : Int32)) = nI (min 20 (U + 1)) := by
    rw [nI_1]
    by_cases q : U + 1 < 20
    · rw [if_pos (show nI (U + 1) < (20 : Int32) from nI_lt (b := 20) q (by decide)), show min 20 (U + 1) = U + 1 by omega]
    · rw [if_neg (show ¬ nI (U + 1) < (20 : Int32) from nI_nlt (b := 20) (by omega) (by omega)), show min 20 (U + 1) = 20 by omega]; rfl
  refine ⟨m_si hc (X + 10) 1 (nI (min 20 (U + 1))), ?_, by show m_n hb = _; rw [b3, a2], fun a q => ⟨?_, ?_, fun q2 => ⟨?_, ?_⟩⟩, fun k q => ?_, m_r_srs _ _ _ _, fun k q => ?_, m_i_ss _ _ _ _, ?_, ?_⟩
  · unfold f_X6_act
    rw [u_nn, u_nn, u_ck (by rw [t_newo (by omega)]; exact hs), r_newo (by omega), hsc, u_ob, u_ck (by rw [t_newo (by omega)]; exact cab_t hC), r_newo (by omega), cab_0 hC, u_ob, a1, u_ob, u_ck (by rw [(a3 (X + 10) (by omega)).1]; exact hs), (a3 (X + 10) (by omega)).2.1, hsc, u_ob, u_ck a4.1, b1, u_ob, u_ck (by rw [b2, (a3 (X + 10) (by omega)).1]; exact hs), b5 (X + 10) (by omega), (a3 (X + 10) (by omega)).2.1, hsc, u_ob, u_ck (by rw [b2]; exact a4.1), u_nn, u_nn, u_nn, u_nn]
    have : m_i hc (X + 10) 1 = nI U := by
      show m_i hb (X + 10) 1 = _
      rw [o10]; exact hu
    rw [show m_i (m_sr (m_sr hb (m_n h) 1 (some c)) (X + 10) 0 (some (m_n h))) (X + 10) 1 = nI U from this, umin, u_nn]
  · show m_t hb a = _
    rw [b2]; exact (a3 a q).1
  · show m_l hb a = _
    rw [b4]; exact (a3 a q).2.2.2
  · show m_r (m_sr (m_sr hb (m_n h) 1 _) (X + 10) 0 _) a = _
    rw [m_r_srb q2, m_r_srb (by omega), b5 a (by omega)]; exact (a3 a q).2.1
  · rw [m_i_sb q2]
    show m_i hb a = _
    rw [b8 a (by omega)]; exact (a3 a q).2.2.1
  · show m_r (m_sr (m_sr hb (m_n h) 1 _) (X + 10) 0 _) (X + 10) k = _
    rw [m_r_srj q, m_r_srb (by omega), b5 (X + 10) (by omega), (a3 (X + 10) (by omega)).2.1]
  · rw [m_i_sj q]
    show m_i hb (X + 10) k = _
    rw [o10]
  · show m_r (m_sr (m_sr hb (m_n h) 1 _) (X + 10) 0 _) (m_n h) 1 = _
    rw [m_r_srb (by omega)]; exact m_r_srs _ _ _ _
  · obtain ⟨q1, q2, q3, q4, q5⟩ := b9
    have ii : ∀ a, a ≠ X + 10 → m_i (m_si hc (X + 10) 1 (nI (min 20 (U + 1)))) a = m_i hb a := fun a q => m_i_sb q
    have rr : ∀ k, k ≠ 1 → m_r (m_si hc (X + 10) 1 (nI (min 20 (U + 1)))) (m_n h) k = m_r hb (m_n h) k := fun k q => by
      show m_r (m_sr (m_sr hb (m_n h) 1 _) (X + 10) 0 _) (m_n h) k = _
      rw [m_r_srb (by omega), m_r_srj q]
    refine ⟨⟨q1.1.hp (fun _ _ _ => rfl) (fun k hk => rr k (by omega)), by rw [rr 0 (by decide)]; exact q1.2⟩, q2.hp (fun a z1 z2 => ⟨rfl, ?_⟩), q3.hp hN (fun a z1 z2 => ii a (by have := hCa.2.2.2.1; omega)), q4.hp (fun a z1 z2 => ii a (by omega)), q5⟩
    show m_r (m_sr (m_sr hb (m_n h) 1 _) (X + 10) 0 _) a = _
    rw [m_r_srb (by have := hCa.2.2.2.1; omega), m_r_srb (by omega)]
end
