/-! PURE 99yu: the law's loop: one call. -/
section
variable {G : GG} {own : Nat → Nat} {R X c t U : Nat} {h h' : AH} {w w' : MS} {v : VV}
/-- nothing has changed but the reference's cells -/
def EqM (X : Nat) (h h' : AH) : Prop := m_t h' = m_t h ∧ m_r h' = m_r h ∧ m_n h' = m_n h ∧ ∀ a, a < X + 59 ∨ X + 122 ≤ a → m_i h' a = m_i h a
theorem Cab.em (hC : Cab h c t v) (hN : sN v ≤ 8) (hD : CaD own h X c t) (e : EqM X h h') : Cab h' c t v := hC.hp hN (fun a ha => ⟨by rw [e.1], by rw [e.2.1], e.2.2.2 a (by have := hD.1; have := hD.2.2.2.1; omega)⟩)
theorem CaD.em (hD : CaD own h X c t) (e : EqM X h h') : CaD own h' X c t := by unfold CaD at hD ⊢; rw [e.2.2.1]; exact hD
theorem Cab0.em (hC : Cab0 h X v) (hN : sN v ≤ 8) (e : EqM X h h') : Cab0 h' X v := by
  obtain ⟨c1, c2, c3, c4, c5, c6, c7, c8⟩ := hC
  refine ⟨by rw [e.1]; exact c1, by rw [e.2.1]; exact c2, c3.hp (fun a h1 h2 => ⟨by rw [e.1], by rw [e.2.1]⟩), c4.hp hN (fun a h1 h2 => e.2.2.2 a (by omega)), ?_, ?_, ?_, ?_⟩
  · rw [e.2.2.2 _ (by omega)]; exact c5
  · rw [e.2.2.2 _ (by omega)]; exact c6
  · rw [e.2.2.2 _ (by omega)]; exact c7
  · rw [e.2.2.2 _ (by omega)]; exact c8
theorem Chn.em (e : EqM X h h') : ∀ {U c : Nat}, Chn own h X t v U c → Chn own h' X t v U c
  | 0, _, _ => trivial
  | U + 1, c, hc => by
    obtain ⟨c', e1, e2, e3, e4, e5⟩ := hc
    exact ⟨c', by rw [e.2.1]; exact e1, e2.em (st_N8 e4.1) e3 e, e3.em e, e4, Chn.em e e5⟩
theorem ScR.em {s a5 a6 : Nat} (hS : ScR own R h X s a5 a6 v U) (e : EqM X h h') (hs : s < X + 59 ∨ X + 122 ≤ s) (h5 : a5 < X + 59 ∨ X + 122 ≤ a5) (h6 : a6 < X + 59 ∨ X + 122 ≤ a6) : ScR own R h' X s a5 a6 v U := by
  obtain ⟨c, t, s1, s2, s3, s4, s5, s6, s7, s8⟩ := hS
  refine ⟨c, t, ?_, by rw [e.2.1]; exact s2, ?_, s4, ?_, ?_, s7, s8.em e⟩
  · unfold ScS at s1 ⊢; rw [e.1, e.2.1]; exact s1
  · rcases s3 with ⟨a, b, d⟩ | ⟨a, b, d, f⟩
    · exact Or.inl ⟨a, b.em (st_N8 s4.1) d e, d.em e⟩
    · exact Or.inr ⟨a, b, d, f.em (st_N8 s4.1) e⟩
  · unfold ScV at s5 ⊢; rw [e.2.2.2 s hs]; exact s5
  · unfold LgR at s6 ⊢; rw [e.2.2.2 s hs, e.2.2.2 a5 h5, e.2.2.2 a6 h6]; exact s6
theorem GS.em (hG : GS h X) (e : EqM X h h') : GS h' X := by
  obtain ⟨g1, g2, g3, g4, g5, g6, g7, g8⟩ := hG
  refine ⟨?_, g2.cg e.1 e.2.1, ?_, ?_, ?_, ?_, ?_, by rw [e.2.2.1]; exact g8⟩
  · unfold GA at g1 ⊢; rw [e.1, e.2.1]; exact g1
  · rw [e.1]; exact g3
  · exact g4.hp (fun a _ _ => by rw [e.1]) (fun k _ => by rw [e.2.1])
  · unfold GT at g5 ⊢; rw [e.1, e.2.1]; exact g5
  · unfold GP at g6 ⊢; rw [e.1, e.2.1]; exact g6
  · unfold GC at g7 ⊢; rw [e.1, e.2.1]; exact g7
theorem RelO.em (hR : RelO own R h X w) (e : EqM X h h') : RelO own R h' X w := by
  obtain ⟨g, ta, r, l, ⟨U, u, s⟩, i⟩ := hR
  refine ⟨g.em e, ?_, ⟨r.1, r.2.1, by rw [e.2.2.2 X (by omega)]; exact r.2.2.1, r.2.2.2⟩, fun q hq => ?_, ⟨U, u, s.em e (by omega) (by omega) (by omega)⟩, fun k hk => ?_⟩
  · unfold TaR at ta ⊢; rw [e.2.2.2 (X + 1) (by omega), e.2.2.2 (X + 2) (by omega)]; exact ta
  · obtain ⟨L, e1, e2, e3, e4, e5, e6⟩ := l q hq
    exact ⟨L, by rw [e.2.1]; exact e1, e2.hp (fun a _ _ => by rw [e.1]) (by rw [e.2.1]), e3.hp (by rw [e.1]) (e.2.2.2 (L + 1) (by omega)), e4, by rw [e.2.2.1]; exact e5, e6⟩
  · rcases i k hk with ⟨a, b⟩ | ⟨a, s, U, b, cc, d, f, g, sc⟩
    · exact Or.inl ⟨a, by rw [e.2.1]; exact b⟩
    · exact Or.inr ⟨a, s, U, by rw [e.2.1]; exact b, cc, by rw [e.2.2.1]; exact d, by rw [e.2.1]; exact f, g, sc.em e (by omega) (by omega) (by omega)⟩
/-- what every call keeps -/
def Inv (X : Nat) (h : AH) : Prop := MI h (X + 59) ∧ Rel h X (ms_of h (X + 59))
theorem ms_mh (h : AH) (M : Nat) (w : MS) {k : Nat} (hk : k = 0 ∨ mrk k = true) : (ms_of (mh h M w) M).1 k = w.1 k := by
  show (if k = 0 then m_i (mh h M w) M else m_i (mh h M w) (M + mofs k)) = w.1 k
  by_cases z : k = 0
  · rw [if_pos z, mh_i0, z]
  · rw [if_neg z, mh_i h M w (hk.resolve_left z)]
theorem mrk19 : ∀ r, r < 20 → 0 < r → mrk r = true := by decide
theorem mrk48 : ∀ r, r < 83 → (42 ≤ r ∧ r ≤ 48) ∨ r = 53 ∨ r = 81 ∨ r = 82 → mrk r = true := by decide
theorem step_go {F : AH → Option (Int32 × AH)} {P : MS → Option (Int32 × MS)} (hC : Call X F P) (hI : Inv X h) : ∃ r h' h'', F h = some (r, h') ∧ m_t h' (X + 59) = .inl 12 ∧ lf (X + 59) P h' = some (r, h'') ∧ m_t h X = .inl 11 ∧ Inv X h'' := by
  obtain ⟨hM, hR⟩ := hI
  obtain ⟨r, h', w', e1, e2, ⟨own, R, e3⟩, e4⟩ := hC h _ hR
  have hX : m_t h X = .inl 11 := by obtain ⟨_, _, g, -⟩ := hR; exact g.1.1
  have c0 := e4.2 (X + 59) (by omega) (by omega)
  have ck' : ∀ k, m_t h' (X + 59 + mofs k) = m_t h (X + 59 + mofs k) ∧ m_i h' (X + 59 + mofs k) = m_i h (X + 59 + mofs k) ∧ m_l h' (X + 59 + mofs k) = m_l h (X + 59 + mofs k) := fun k => by
    have := mofs_lt k
    have := e4.2 (X + 59 + mofs k) (by omega) (by omega)
    exact ⟨this.1, this.2.2.1, this.2.2.2⟩
  have hM' : MI h' (X + 59) := ⟨by rw [c0.1]; exact hM.1, fun k hk => ⟨by rw [c0.2.1]; exact (hM.2 k hk).1, by rw [(ck' k).1]; exact (hM.2 k hk).2⟩⟩
  have hw : ms_of h' (X + 59) = ms_of h (X + 59) := by
    unfold ms_of
    refine Prod.ext (funext fun k => ?_) (funext fun k => ?_)
    · show (if k = 0 then m_i h' (X + 59) else m_i h' (X + 59 + mofs k)) = if k = 0 then m_i h (X + 59) else m_i h (X + 59 + mofs k)
      rw [c0.2.2.1, (ck' k).2.1]
    · show (if k = 0 then m_l h' (X + 59) else m_l h' (X + 59 + mofs k)) = if k = 0 then m_l h (X + 59) else m_l h (X + 59 + mofs k)
      rw [c0.2.2.2, (ck' k).2.2]
  have eM : EqM X h' (mh h' (X + 59) w') := ⟨rfl, rfl, rfl, fun a ha => by
    show (if X + 59 ≤ a ∧ a < X + 59 + 63 then w'.1 (mso (a - (X + 59))) else m_i h' a) = m_i h' a
    rw [if_neg (by omega)]⟩
  have eW : WQ w' (ms_of (mh h' (X + 59) w') (X + 59)) := by
    refine ⟨fun r q1 q2 i _ => ?_, fun k _ => ?_, fun r hr => ?_, fun j _ => ?_⟩
    · rw [ms_mh _ _ _ (Or.inr (mrk19 r (by omega) (by omega)))]
    · rw [ms_mh _ _ _ (Or.inl rfl)]
    · rw [ms_mh _ _ _ (Or.inr (mrk48 r (by omega) (by omega)))]
    · rw [ms_mh _ _ _ (Or.inr (mrk48 81 (by decide) (by omega)))]
  exact ⟨r, h', mh h' (X + 59) w', e1, hM'.1, lf_eq hM' hw e2, hX, hM', own, R, (e3.em eM).wq eW⟩
end
