/-! PURE 77: the class's memory and the reference's rows: the relation that calls keep. -/
def GA (h : AH) (X : Nat) : Prop :=
  m_t h X = .inl 11 ∧ m_r h X 0 = some (X + 1) ∧ m_r h X 1 = some (X + 6) ∧ m_r h X 2 = some (X + 7) ∧ m_r h X 3 = some (X + 9) ∧ m_r h X 5 = some (X + 10) ∧ m_r h X 6 = some (X + 33) ∧ m_r h X 7 = some (X + 34) ∧ m_r h X 8 = some (X + 39) ∧ m_r h X 9 = some (X + 44) ∧ m_r h X 10 = some (X + 54) ∧ m_r h X 11 = some (X + 58)
def GT (h : AH) (X : Nat) : Prop :=
  m_t h (X + 39) = .inl 7 ∧ m_r h (X + 39) 0 = some (X + 40) ∧ m_r h (X + 39) 2 = some (X + 41) ∧ m_r h (X + 39) 3 = some (X + 42) ∧ m_r h (X + 39) 4 = some (X + 43) ∧ m_t h (X + 40) = .inr (.int, 8) ∧ m_t h (X + 41) = .inr (.int, 64) ∧ m_t h (X + 42) = .inr (.int, 256) ∧ m_t h (X + 43) = .inr (.int, 8)
def GP (h : AH) (X : Nat) : Prop :=
  m_t h (X + 44) = .inl 4 ∧ (∀ k, k < 9 → m_r h (X + 44) k = some (X + 45 + k)) ∧ m_t h (X + 45) = .inr (.int, 24) ∧ m_t h (X + 46) = .inr (.int, 24) ∧ m_t h (X + 47) = .inr (.int, 24) ∧ m_t h (X + 48) = .inr (.int, 24) ∧ m_t h (X + 49) = .inr (.int, 144) ∧ m_t h (X + 50) = .inr (.int, 6) ∧ m_t h (X + 51) = .inr (.int, 1464) ∧ m_t h (X + 52) = .inr (.int, 366) ∧ m_t h (X + 53) = .inr (.int, 366)
def GC (h : AH) (X : Nat) : Prop :=
  m_t h (X + 54) = .inl 1 ∧ m_r h (X + 54) 0 = some (X + 55) ∧ m_r h (X + 54) 1 = some (X + 56) ∧ m_r h (X + 54) 2 = some (X + 57) ∧ m_t h (X + 55) = .inr (.int, 61) ∧ m_t h (X + 56) = .inr (.int, 1464) ∧ m_t h (X + 57) = .inr (.int, 61)
def GS (h : AH) (X : Nat) : Prop := GA h X ∧ RI h (X + 1) ∧ (m_t h (X + 9) = .inr (.object RX2, 6) ∧ m_t h (X + 33) = .inr (.object RX6, 4) ∧ m_t h (X + 58) = .inr (.int, 81)) ∧ CaS h (X + 34) ∧ GT h X ∧ GP h X ∧ GC h X ∧ X + 122 ≤ m_n h
def CaD (own : Nat → Nat) (h : AH) (X c t : Nat) : Prop := X + 122 ≤ c ∧ c + 5 ≤ m_n h ∧ (∀ a, c ≤ a → a < c + 5 → own a = c) ∧ X + 122 ≤ t ∧ t + 15 ≤ m_n h ∧ ∀ a, t ≤ a → a < t + 15 → own a = t
/-- no train was told -/
def Cab0 (h : AH) (X : Nat) (v : VV) : Prop := m_t h (X + 11) = .inl 0 ∧ m_r h (X + 11) 0 = some (X + 12) ∧ TrS h (X + 12) ∧ TrV h (X + 12) v ∧ m_i h (X + 11) 2 = v 1 13 ∧ m_i h (X + 11) 3 = v 1 11 ∧ m_i h (X + 11) 4 = v 1 10 ∧ KV (m_i h (X + 11) 5) v
def CabD (own : Nat → Nat) (h : AH) (X c t : Nat) (v : VV) : Prop := (v 1 0 = 1 ∧ Cab h c t v ∧ CaD own h X c t) ∨ (v 1 0 = 0 ∧ c = X + 11 ∧ t = X + 12 ∧ Cab0 h X v)
def Chn (own : Nat → Nat) (h : AH) (X t : Nat) (v : VV) : Nat → Nat → Prop
  | 0, _ => True
  | U + 1, c => ∃ c', m_r h c 1 = some c' ∧ Cab h c' t (pst v U) ∧ CaD own h X c' t ∧ Sta (pst v U) ∧ Chn own h X t v U c'
def LgR (h : AH) (s a5 a6 : Nat) (v : VV) : Prop := ∃ g : Nat, g ≤ 10 ∧ v 1 14 = nI g ∧ m_i h s 4 = nI g ∧ ∀ k, k < g → m_i h a5 k = v 18 k ∧ m_i h a6 k = v 19 k ∧ bd (v 18 k) 0 60 ∧ bd (v 19 k) 0 60
def ScS (h : AH) (s a5 a6 : Nat) : Prop := m_t h s = .inl 6 ∧ m_r h s 5 = some a5 ∧ m_r h s 6 = some a6 ∧ m_t h a5 = .inr (.int, 10) ∧ m_t h a6 = .inr (.int, 10)
def ScV (R : Nat) (h : AH) (s : Nat) (v : VV) (U : Nat) : Prop := m_i h s 1 = nI U ∧ U ≤ 20 ∧ m_i h s 2 = v 1 16 ∧ (v 1 16 = -1 ∨ ∃ r, r < R ∧ v 1 16 = nI r) ∧ m_i h s 3 = v 1 15 ∧ 0 ≤ v 1 15
/-- a scene of the class is the reference's state -/
def ScR (own : Nat → Nat) (R : Nat) (h : AH) (X s a5 a6 : Nat) (v : VV) (U : Nat) : Prop := ∃ c t, ScS h s a5 a6 ∧ m_r h s 0 = some c ∧ CabD own h X c t v ∧ Sta v ∧ ScV R h s v U ∧ LgR h s a5 a6 v ∧ (v 1 0 = 0 → U = 0) ∧ Chn own h X t v U c
def img (v : VV) (k : Nat) : VV := fun r j =>
  if r = 1 then v 81 (1250 * k + j) else if r = 2 then v 81 (1250 * k + 17 + j) else if r = 8 then v 81 (1250 * k + 24 + j) else if r = 9 then v 81 (1250 * k + 32 + j) else if r = 10 then v 81 (1250 * k + 40 + j) else if r = 11 then v 81 (1250 * k + 48 + j) else if r = 12 then v 81 (1250 * k + 56 + j) else if r = 54 then v 81 (1250 * k + 64 + j) else if r = 3 then v 81 (1250 * k + 65 + j) else if r = 4 then v 81 (1250 * k + 73 + j) else if r = 5 then v 81 (1250 * k + 81 + j) else if r = 6 then v 81 (1250 * k + 89 + j) else if r = 7 then v 81 (1250 * k + 97 + j) else if r = 13 then v 81 (1250 * k + 105 + j) else if r = 14 then v 81 (1250 * k + 110 + j) else if r = 15 then v 81 (1250 * k + 115 + j) else if r = 16 then v 81 (1250 * k + 120 + j) else if r = 17 then v 81 (1250 * k + 125 + j) else if r = 18 then v 81 (1250 * k + 130 + j) else if r = 19 then v 81 (1250 * k + 140 + j) else if r = 53 then v 81 (1250 * k + 150 + j) else v r j
def ImR (own : Nat → Nat) (R : Nat) (h : AH) (X : Nat) (v : VV) (k : Nat) : Prop := (v 82 k = 0 ∧ m_r h (X + 33) k = none) ∨ (v 82 k = 1 ∧ ∃ s U, m_r h (X + 33) k = some s ∧ X + 122 ≤ s ∧ s + 3 ≤ m_n h ∧ ((∀ a, s ≤ a → a < s + 3 → own a = s) ∧ ∀ k', k' < 4 → k' ≠ k → m_r h (X + 33) k' ≠ some s) ∧ img v k 54 0 = nI U ∧ ScR own R h X s (s + 1) (s + 2) (img v k) U)
def TaR (h : AH) (X : Nat) (w : MS) : Prop := ∃ n : Nat, n ≤ 400 ∧ w.1 0 32 = nI n ∧ m_i h (X + 1) 1 = nI n ∧ ∀ i, i < n → m_i h (X + 2) i = w.1 42 i ∧ (w.1 42 i).toInt8.toInt32 = w.1 42 i
def LwR (own : Nat → Nat) (R : Nat) (h : AH) (X : Nat) (v : VV) : Prop := ∀ r, r < R → ∃ L, m_r h (X + 9) r = some L ∧ LaS h L ∧ LawV h L v r ∧ X + 122 ≤ L ∧ L + 4 ≤ m_n h ∧ ∀ a, L ≤ a → a < L + 4 → own a = L
def RelO (own : Nat → Nat) (R : Nat) (h : AH) (X : Nat) (w : MS) : Prop := GS h X ∧ TaR h X w ∧ (R ≤ 6 ∧ w.1 0 36 = nI R ∧ m_i h X 4 = nI R ∧ w.1 0 41 = 13) ∧ LwR own R h X w.1 ∧ (∃ U, w.1 0 55 = nI U ∧ ScR own R h X (X + 10) (X + 31) (X + 32) w.1 U) ∧ ∀ k, k < 4 → ImR own R h X w.1 k
def Rel (h : AH) (X : Nat) (w : MS) : Prop := ∃ own R, RelO own R h X w
/-- scratch -/
def Scr (X R : Nat) (h : AH) (a : Nat) : Prop := (X + 34 ≤ a ∧ a < X + 59) ∨ ∃ r L, r < R ∧ m_r h (X + 9) r = some L ∧ LSc L a
def FrQ (X R : Nat) (h h' : AH) : Prop := m_t h' = m_t h ∧ m_n h' = m_n h ∧ (∀ a, a ≠ X + 34 → m_r h' a = m_r h a) ∧ (∀ k, 6 ≤ k → m_r h' (X + 34) k = m_r h (X + 34) k) ∧ (∀ a, ¬ Scr X R h a → a ≠ X → m_i h' a = m_i h a ∧ m_l h' a = m_l h a) ∧ (∀ k, k ≠ 12 → m_i h' X k = m_i h X k) ∧ m_l h' X = m_l h X
theorem FrQ.rf {X R : Nat} {h : AH} : FrQ X R h h := ⟨rfl, rfl, fun _ _ => rfl, fun _ _ => rfl, fun _ _ _ => ⟨rfl, rfl⟩, fun _ _ => rfl, rfl⟩
theorem Scr.eq {X R : Nat} {h h' : AH} (hr : m_r h' (X + 9) = m_r h (X + 9)) (a : Nat) : Scr X R h' a ↔ Scr X R h a := by unfold Scr; rw [hr]
theorem FrQ.tr {X R : Nat} {h h1 h2 : AH} (a : FrQ X R h h1) (b : FrQ X R h1 h2) : FrQ X R h h2 := by
  refine ⟨b.1.trans a.1, b.2.1.trans a.2.1, fun q hq => (b.2.2.1 q hq).trans (a.2.2.1 q hq), fun q hq => (b.2.2.2.1 q hq).trans (a.2.2.2.1 q hq), fun q hq hx => ?_, fun q hq => (b.2.2.2.2.2.1 q hq).trans (a.2.2.2.2.2.1 q hq), b.2.2.2.2.2.2.trans a.2.2.2.2.2.2⟩
  have h1 := a.2.2.2.2.1 q hq hx
  have h2 := b.2.2.2.2.1 q (fun z => hq ((Scr.eq (a.2.2.1 (X + 9) (by omega)) q).mp z)) hx
  exact ⟨h2.1.trans h1.1, h2.2.trans h1.2⟩
section
variable {own : Nat → Nat} {R X : Nat} {h h' : AH} {w : MS}
/-- a cell that is no scratch: of a block that starts with another thing than a law, or a law's code -/
theorem no_scr (hL : LwR own R h X w.1) {b a : Nat} (hb : X + 122 ≤ a) (ho : own a = b) (hn : m_t h b ≠ .inl 2) : ¬ Scr X R h a := by
  rintro (q | ⟨r, L, hr, e, hs⟩)
  · omega
  · obtain ⟨L', e', s1, -, -, -, o⟩ := hL r hr
    rw [e] at e'; cases e'
    unfold LSc at hs
    have := o a (by omega) (by omega)
    rw [ho] at this
    exact hn (by rw [this]; exact s1.1)
theorem no_scr_code (hL : LwR own R h X w.1) {r L : Nat} (hr : r < R) (e : m_r h (X + 9) r = some L) : ¬ Scr X R h (L + 1) := by
  obtain ⟨L1, e1, -, -, hb, -, o1⟩ := hL r hr
  rw [e] at e1; cases e1
  rintro (q | ⟨r2, L2, hr2, e2, hs⟩)
  · omega
  · obtain ⟨L', e', s1, -, -, -, o⟩ := hL r2 hr2
    rw [e2] at e'; cases e'
    unfold LSc at hs
    have h1 := o (L + 1) (by omega) (by omega)
    have h2 := o1 (L + 1) (by omega) (by omega)
    omega
theorem Cab.frq {c t : Nat} {v : VV} (hC : Cab h c t v) (hN : sN v ≤ 8) (hD : CaD own h X c t) (hL : LwR own R h X w.1) (hF : FrQ X R h h') : Cab h' c t v := by
  have hc := cab_t hC
  have ht := tr_t hC
  refine hC.hp hN (fun a ha => ?_)
  have hns : ¬ Scr X R h a := by
    rcases ha with ha | ha
    · exact no_scr hL (b := c) (by have := hD.1; omega) (hD.2.2.1 a ha.1 ha.2) (by rw [hc]; decide)
    · exact no_scr hL (b := t) (by have := hD.2.2.2.1; omega) (hD.2.2.2.2.2 a ha.1 ha.2) (by rw [ht]; decide)
  have hX : X + 122 ≤ a := by have := hD.1; have := hD.2.2.2.1; omega
  exact ⟨by rw [hF.1], hF.2.2.1 a (by omega), (hF.2.2.2.2.1 a hns (by omega)).1⟩
theorem CaD.frq {c t : Nat} (hD : CaD own h X c t) (hF : FrQ X R h h') : CaD own h' X c t := by
  unfold CaD at hD ⊢; rw [hF.2.1]; exact hD
theorem no_scr_fix {a : Nat} (hL : LwR own R h X w.1) (ha : a < X + 34 ∨ (X + 59 ≤ a ∧ a < X + 122)) : ¬ Scr X R h a := by
  rintro (q | ⟨r, L, hr, e, hs⟩)
  · omega
  · obtain ⟨L', e', -, -, hb, -, -⟩ := hL r hr
    rw [e] at e'; cases e'
    unfold LSc at hs; omega
theorem Cab0.frq {v : VV} (hC : Cab0 h X v) (hN : sN v ≤ 8) (hL : LwR own R h X w.1) (hF : FrQ X R h h') : Cab0 h' X v := by
  obtain ⟨c1, c2, c3, c4, c5, c6, c7, c8⟩ := hC
  have e : ∀ a, X + 11 ≤ a → a < X + 34 → m_i h' a = m_i h a := fun a h1 h2 => (hF.2.2.2.2.1 a (no_scr_fix hL (by omega)) (by omega)).1
  refine ⟨by rw [hF.1]; exact c1, by rw [hF.2.2.1 _ (by omega)]; exact c2, c3.hp (fun a h1 h2 => ⟨by rw [hF.1], hF.2.2.1 a (by omega)⟩), c4.hp hN (fun a h1 h2 => e a (by omega) (by omega)), ?_, ?_, ?_, ?_⟩
  · rw [e _ (by omega) (by omega)]; exact c5
  · rw [e _ (by omega) (by omega)]; exact c6
  · rw [e _ (by omega) (by omega)]; exact c7
  · rw [e _ (by omega) (by omega)]; exact c8
theorem Chn.frq {t : Nat} {v : VV} (hL : LwR own R h X w.1) (hF : FrQ X R h h') : ∀ {U c : Nat}, Chn own h X t v U c → X + 122 ≤ c ∨ U = 0 → Chn own h' X t v U c
  | 0, _, _, _ => trivial
  | U + 1, c, hc, hb => by
    obtain ⟨c', e1, e2, e3, e4, e5⟩ := hc
    exact ⟨c', by rw [hF.2.2.1 c (by omega)]; exact e1, e2.frq (st_N8 e4.1) e3 hL hF, e3.frq hF, e4, Chn.frq hL hF e5 (Or.inl e3.1)⟩
theorem ScR.frq {s a5 a6 : Nat} {v : VV} {U : Nat} (hS : ScR own R h X s a5 a6 v U) (hL : LwR own R h X w.1) (hF : FrQ X R h h') (hs : s ≠ X + 34 ∧ s ≠ X ∧ ¬ Scr X R h s) (h5 : a5 ≠ X ∧ ¬ Scr X R h a5) (h6 : a6 ≠ X ∧ ¬ Scr X R h a6) : ScR own R h' X s a5 a6 v U := by
  obtain ⟨c, t, s1, s2, s3, s4, s5, s6, s7, s8⟩ := hS
  have es : m_i h' s = m_i h s := (hF.2.2.2.2.1 s hs.2.2 hs.2.1).1
  have e5 : m_i h' a5 = m_i h a5 := (hF.2.2.2.2.1 a5 h5.2 h5.1).1
  have e6 : m_i h' a6 = m_i h a6 := (hF.2.2.2.2.1 a6 h6.2 h6.1).1
  have er : m_r h' s = m_r h s := hF.2.2.1 s hs.1
  refine ⟨c, t, ?_, by rw [er]; exact s2, ?_, s4, ?_, ?_, s7, ?_⟩
  · unfold ScS at s1 ⊢; rw [hF.1, er]; exact s1
  · rcases s3 with ⟨a, b, d⟩ | ⟨a, b, d, e⟩
    · exact Or.inl ⟨a, b.frq (st_N8 s4.1) d hL hF, d.frq hF⟩
    · exact Or.inr ⟨a, b, d, e.frq (st_N8 s4.1) hL hF⟩
  · unfold ScV at s5 ⊢; rw [es]; exact s5
  · unfold LgR at s6 ⊢; rw [es, e5, e6]; exact s6
  · refine Chn.frq hL hF s8 ?_
    rcases s3 with ⟨a, b, d⟩ | ⟨a, b, d, e⟩
    · exact Or.inl d.1
    · exact Or.inr (s7 a)
theorem LwR.frq (hL : LwR own R h X w.1) (hF : FrQ X R h h') : LwR own R h' X w.1 := by
  intro r hr
  obtain ⟨L, e1, e2, e3, e4, e5, e6⟩ := hL r hr
  refine ⟨L, by rw [hF.2.2.1 _ (by omega)]; exact e1, e2.hp (fun a _ _ => by rw [hF.1]) (hF.2.2.1 L (by omega)), e3.hp (by rw [hF.1]) (hF.2.2.2.2.1 (L + 1) (no_scr_code hL hr e1) (by omega)).1, e4, by rw [hF.2.1]; exact e5, e6⟩
theorem GS.frq (hG : GS h X) (hF : FrQ X R h h') : GS h' X := by
  obtain ⟨g1, g2, g3, g4, g5, g6, g7, g8⟩ := hG
  have hr : ∀ a, a ≠ X + 34 → m_r h' a = m_r h a := hF.2.2.1
  refine ⟨?_, ?_, ?_, ?_, ?_, ?_, ?_, by rw [hF.2.1]; exact g8⟩
  · unfold GA at g1 ⊢; rw [hF.1, hr X (by omega)]; exact g1
  · refine ⟨fun q hq => by rw [hF.1]; exact g2.1 q hq, fun q hq => ?_⟩
    have : q.1 < 8 := by revert hq; revert q; decide
    rw [hr _ (by omega)]; exact g2.2 q hq
  · rw [hF.1]; exact g3
  · exact g4.hp (fun a _ _ => by rw [hF.1]) hF.2.2.2.1
  · unfold GT at g5 ⊢; rw [hF.1, hr _ (by omega)]; exact g5
  · unfold GP at g6 ⊢; rw [hF.1, hr _ (by omega)]; exact g6
  · unfold GC at g7 ⊢; rw [hF.1, hr _ (by omega)]; exact g7
/-- a question leaves the relation as it is -/
theorem RelO.frq (hR : RelO own R h X w) (hF : FrQ X R h h') : RelO own R h' X w := by
  obtain ⟨g, t, r, l, ⟨U, u, s⟩, i⟩ := hR
  have fx : ∀ a, X < a → a < X + 34 → m_i h' a = m_i h a := fun a h1 h2 => (hF.2.2.2.2.1 a (no_scr_fix l (by omega)) (by omega)).1
  refine ⟨g.frq hF, ?_, ⟨r.1, r.2.1, by rw [hF.2.2.2.2.2.1 4 (by decide)]; exact r.2.2.1, r.2.2.2⟩, l.frq hF, ⟨U, u, s.frq l hF ⟨by omega, by omega, no_scr_fix l (by omega)⟩ ⟨by omega, no_scr_fix l (by omega)⟩ ⟨by omega, no_scr_fix l (by omega)⟩⟩, fun k hk => ?_⟩
  · unfold TaR at t ⊢; rw [fx (X + 1) (by omega) (by omega), fx (X + 2) (by omega) (by omega)]; exact t
  · rcases i k hk with ⟨a, b⟩ | ⟨a, s, U, b, c, d, e, f, sc⟩
    · exact Or.inl ⟨a, by rw [hF.2.2.1 _ (by omega)]; exact b⟩
    · have hst : m_t h s ≠ .inl 2 := by
        obtain ⟨_, _, s1, -⟩ := sc
        rw [s1.1]; decide
      have ns : ∀ a, s ≤ a → a < s + 3 → ¬ Scr X R h a := fun a h1 h2 => no_scr l (b := s) (by omega) (e.1 a h1 h2) hst
      exact Or.inr ⟨a, s, U, by rw [hF.2.2.1 _ (by omega)]; exact b, c, by rw [hF.2.1]; exact d, ⟨e.1, by rw [hF.2.2.1 _ (by omega)]; exact e.2⟩, f, sc.frq l hF ⟨by omega, by omega, ns s (by omega) (by omega)⟩ ⟨by omega, ns (s + 1) (by omega) (by omega)⟩ ⟨by omega, ns (s + 2) (by omega) (by omega)⟩⟩
/-- the reference's rows, where they matter -/
theorem ScR.pw {s a5 a6 : Nat} {v v' : VV} {U : Nat} (hS : ScR own R h X s a5 a6 v U) (e : PW v v') (e53 : ∀ n, n < 1020 → v' 53 n = v 53 n) : ScR own R h X s a5 a6 v' U := by
  obtain ⟨c, t, s1, s2, s3, s4, s5, s6, s7, s8⟩ := hS
  refine ⟨c, t, s1, s2, ?_, s4.pw e.p3, ?_, ?_, by rw [pw1 e (by decide)]; exact s7, ?_⟩
  · rcases s3 with ⟨a, b, d⟩ | ⟨a, b, d, z⟩
    · exact Or.inl ⟨by rw [pw1 e (by decide)]; exact a, b.pw s4.1 e.p3, d⟩
    · refine Or.inr ⟨by rw [pw1 e (by decide)]; exact a, b, d, ?_⟩
      obtain ⟨z1, z2, z3, z4, z5, z6, z7, z8⟩ := z
      exact ⟨z1, z2, z3, z4.pw e.p3 (st_N8 s4.1) (st_T5 s4.1) (st_C5 s4.1), by rw [pw1 e (by decide)]; exact z5, by rw [pw1 e (by decide)]; exact z6, by rw [pw1 e (by decide)]; exact z7, z8.pw e.p3⟩
  · unfold ScV at s5 ⊢; rw [pw1 e (i := 16) (by decide), pw1 e (i := 15) (by decide)]; exact s5
  · obtain ⟨g, g1, g2, g3, g4⟩ := s6
    exact ⟨g, g1, by rw [pw1 e (by decide)]; exact g2, g3, fun k hk => by rw [pw18 e (by omega), pw19 e (by omega)]; exact g4 k hk⟩
  · have hU := s5.2.1
    have st : stat v v' := ⟨fun i hi => pw1 e (by omega), fun i _ hi => pw1 e hi, fun r hr i hi => e r (by omega) (by omega) i hi⟩
    have key : ∀ (U c : Nat), U ≤ 20 → Chn own h X t v U c → Chn own h X t v' U c := by
      intro U
      induction U with
      | zero => intro c _ _; trivial
      | succ U ih =>
        intro c hU hc
        obtain ⟨c', e1, e2, e3, e4, e5⟩ := hc
        have ep : PW (pst v U) (pst v' U) := pst_cg st (fun n hn => e53 _ (by omega))
        exact ⟨c', e1, e2.pw e4.1 ep.p3, e3, e4.pw ep.p3, ih c' (by omega) e5⟩
    exact key U c hU s8
theorem ScR.rr {s a5 a6 R' : Nat} {v : VV} {U : Nat} (hS : ScR own R h X s a5 a6 v U) (hR : R ≤ R') : ScR own R' h X s a5 a6 v U := by
  obtain ⟨c, t, s1, s2, s3, s4, s5, s6, s7, s8⟩ := hS
  exact ⟨c, t, s1, s2, s3, s4, ⟨s5.1, s5.2.1, s5.2.2.1, s5.2.2.2.1.imp id (fun ⟨r, h1, h2⟩ => ⟨r, by omega, h2⟩), s5.2.2.2.2⟩, s6, s7, s8⟩
theorem img_r {v : VV} {k r : Nat} (hr : r = 0 ∨ (20 ≤ r ∧ r ≠ 53 ∧ r ≠ 54)) : img v k r = v r := by
  funext j
  unfold img
  rw [if_neg (by omega), if_neg (by omega), if_neg (by omega), if_neg (by omega), if_neg (by omega), if_neg (by omega), if_neg (by omega), if_neg (by omega), if_neg (by omega), if_neg (by omega), if_neg (by omega), if_neg (by omega), if_neg (by omega), if_neg (by omega), if_neg (by omega), if_neg (by omega), if_neg (by omega), if_neg (by omega), if_neg (by omega), if_neg (by omega), if_neg (by omega)]
end
