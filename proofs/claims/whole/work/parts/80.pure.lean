/-! PURE 80: new cells; a cabin made and copied; frames over what was there. -/
theorem t_new (h : AH) (x : Nat ⊕ (FieldType × Nat)) (a : Nat) : m_t (m_new h x) a = if a = m_n h then x else m_t h a := rfl
theorem i_new (h : AH) (x : Nat ⊕ (FieldType × Nat)) (a : Nat) : m_i (m_new h x) a = if a = m_n h then (fun _ => 0) else m_i h a := rfl
theorem l_new (h : AH) (x : Nat ⊕ (FieldType × Nat)) (a : Nat) : m_l (m_new h x) a = if a = m_n h then (fun _ => 0) else m_l h a := rfl
theorem r_new (h : AH) (x : Nat ⊕ (FieldType × Nat)) (a : Nat) : m_r (m_new h x) a = if a = m_n h then (fun _ => none) else m_r h a := rfl
theorem n_new (h : AH) (x : Nat ⊕ (FieldType × Nat)) : m_n (m_new h x) = m_n h + 1 := rfl
theorem t_newo {h : AH} {x : Nat ⊕ (FieldType × Nat)} {a : Nat} (ha : a < m_n h) : m_t (m_new h x) a = m_t h a := by rw [t_new, if_neg (by omega)]
theorem i_newo {h : AH} {x : Nat ⊕ (FieldType × Nat)} {a : Nat} (ha : a < m_n h) : m_i (m_new h x) a = m_i h a := by rw [i_new, if_neg (by omega)]
theorem l_newo {h : AH} {x : Nat ⊕ (FieldType × Nat)} {a : Nat} (ha : a < m_n h) : m_l (m_new h x) a = m_l h a := by rw [l_new, if_neg (by omega)]
theorem r_newo {h : AH} {x : Nat ⊕ (FieldType × Nat)} {a : Nat} (ha : a < m_n h) : m_r (m_new h x) a = m_r h a := by rw [r_new, if_neg (by omega)]
theorem t_newn {h : AH} {x : Nat ⊕ (FieldType × Nat)} : m_t (m_new h x) (m_n h) = x := by rw [t_new, if_pos rfl]
theorem m_r_srb {h : AH} {a k : Nat} {v : Option Nat} {b : Nat} (hb : b ≠ a) : m_r (m_sr h a k v) b = m_r h b := by
  funext j; rw [m_r_sr', if_neg (fun q => hb q.1)]
theorem m_r_srs (h : AH) (a k : Nat) (v : Option Nat) : m_r (m_sr h a k v) a k = v := by rw [m_r_sr', if_pos ⟨rfl, rfl⟩]
theorem m_r_srj {h : AH} {a k : Nat} {v : Option Nat} {b j : Nat} (hj : j ≠ k) : m_r (m_sr h a k v) b j = m_r h b j := by
  rw [m_r_sr', if_neg (fun q => hj q.2)]
/-- what was there stays -/
def Old (n : Nat) (h h' : AH) : Prop := ∀ a, a < n → m_t h' a = m_t h a ∧ m_r h' a = m_r h a ∧ m_i h' a = m_i h a ∧ m_l h' a = m_l h a
theorem Old.rf {n : Nat} {h : AH} : Old n h h := fun _ _ => ⟨rfl, rfl, rfl, rfl⟩
theorem Old.tr {n : Nat} {h h1 h2 : AH} (a : Old n h h1) (b : Old n h1 h2) : Old n h h2 := fun q hq => ⟨(b q hq).1.trans (a q hq).1, (b q hq).2.1.trans (a q hq).2.1, (b q hq).2.2.1.trans (a q hq).2.2.1, (b q hq).2.2.2.trans (a q hq).2.2.2⟩
theorem Old.new {n : Nat} {h : AH} {x : Nat ⊕ (FieldType × Nat)} (hn : n ≤ m_n h) : Old n h (m_new h x) := fun a ha => ⟨t_newo (by omega), r_newo (by omega), i_newo (by omega), l_newo (by omega)⟩
theorem Old.si {n : Nat} {h : AH} {a k : Nat} {v : Int32} (hn : n ≤ a) : Old n h (m_si h a k v) := fun b hb => ⟨rfl, rfl, m_i_sb (by omega), rfl⟩
theorem Old.sr {n : Nat} {h : AH} {a k : Nat} {v : Option Nat} (hn : n ≤ a) : Old n h (m_sr h a k v) := fun b hb => ⟨rfl, m_r_srb (by omega), rfl, rfl⟩
theorem Old.sa {n : Nat} {h : AH} {a : Nat} {f : Nat → Int32} (hn : n ≤ a) : Old n h (m_sa h a f) := fun b hb => ⟨rfl, rfl, by rw [m_i_sa, if_neg (by omega)], rfl⟩
theorem Old.wk {n m : Nat} {h h1 : AH} (a : Old n h h1) (hm : m ≤ n) : Old m h h1 := fun q hq => a q (by omega)
section
variable {G : GG} {own own' : Nat → Nat} {R X c t c1 c2 : Nat} {h h' h1 : AH} {w : MS} {v v' : VV}
/-- a new cabin -/
theorem c_cabinit (h : AH) (t : Nat) : ∃ h', f_X0_init G (m_n h) t (m_new h (.inl 0)) = some h' ∧ m_n h' = m_n h + 5 ∧ Old (m_n h) h h' ∧ CaS h' (m_n h) ∧ m_r h' (m_n h) 0 = some t ∧ (∀ k, 2 ≤ k → k ≤ 5 → m_i h' (m_n h) k = 0) ∧ ∀ o, 1 ≤ o → o ≤ 4 → ∀ j, m_i h' (m_n h + o) j = 0 := by
  let h2 := m_si (m_si (m_si (m_si (m_sr (m_new h (.inl 0)) (m_n h) 1 none) (m_n h) 2 0) (m_n h) 3 0) (m_n h) 4 0) (m_n h) 5 0
  let h3 := m_sr (m_new h2 (.inr (.int, 8))) (m_n h) 6 (some (m_n h + 1))
  let h4 := m_sr (m_new h3 (.inr (.int, 8))) (m_n h) 7 (some (m_n h + 2))
  let h5 := m_sr (m_new h4 (.inr (.int, 8))) (m_n h) 8 (some (m_n h + 3))
  let h6 := m_sr (m_sr (m_new h5 (.inr (.int, 8))) (m_n h) 9 (some (m_n h + 4))) (m_n h) 0 (some t)
  have n2 : m_n h2 = m_n h + 1 := rfl
  have n3 : m_n h3 = m_n h + 2 := rfl
  have n4 : m_n h4 = m_n h + 3 := rfl
  have n5 : m_n h5 = m_n h + 4 := rfl
  have t2 : m_t h2 (m_n h) = .inl 0 := t_newn
  have t3 : m_t h3 (m_n h) = .inl 0 := (t_newo (by rw [n2]; omega)).trans t2
  have t4 : m_t h4 (m_n h) = .inl 0 := (t_newo (by rw [n3]; omega)).trans t3
  have t5 : m_t h5 (m_n h) = .inl 0 := (t_newo (by rw [n4]; omega)).trans t4
  have t6 : m_t h6 (m_n h) = .inl 0 := (t_newo (by rw [n5]; omega)).trans t5
  have i2 : ∀ k, m_i h2 (m_n h) k = 0 := fun k => by
    show m_i (m_si (m_si (m_si (m_si (m_sr (m_new h (.inl 0)) (m_n h) 1 none) (m_n h) 2 0) (m_n h) 3 0) (m_n h) 4 0) (m_n h) 5 0) (m_n h) k = 0
    rw [m_i_si, m_i_si, m_i_si, m_i_si, m_i_sr, i_new, if_pos rfl]
    split
    · rfl
    · split
      · rfl
      · split
        · rfl
        · split <;> rfl
  have a3 : ∀ (hh : AH) (o : Nat) (j : Nat), m_n hh = o → m_i (m_new hh (.inr (.int, 8))) o j = 0 := fun hh o j e => by rw [i_new, if_pos e.symm]
  refine ⟨h6, ?_, rfl, ?_, ⟨t6, ?_, ?_, ?_, ?_, ?_, ?_, ?_, ?_⟩, m_r_srs _ _ _ _, fun k _ _ => ?_, fun o h1 h2' j => ?_⟩
  · unfold f_X0_init
    rw [u_ck (show m_t (m_new h (.inl 0)) (m_n h) = .inl 0 from t_newn), u_nn, u_nn, u_nn, u_nn, u_nn, u_nn, u_nn]
    refine Eq.trans (u_ck (show m_t (m_new h2 (.inr (.int, 8))) (m_n h) = .inl 0 from (t_newo (by rw [n2]; omega)).trans t2)) ?_
    rw [u_nn, u_nn, u_nn]
    refine Eq.trans (u_ck (show m_t (m_new h3 (.inr (.int, 8))) (m_n h) = .inl 0 from (t_newo (by rw [n3]; omega)).trans t3)) ?_
    rw [u_nn, u_nn, u_nn]
    refine Eq.trans (u_ck (show m_t (m_new h4 (.inr (.int, 8))) (m_n h) = .inl 0 from (t_newo (by rw [n4]; omega)).trans t4)) ?_
    rw [u_nn, u_nn, u_nn]
    refine Eq.trans (u_ck (show m_t (m_new h5 (.inr (.int, 8))) (m_n h) = .inl 0 from (t_newo (by rw [n5]; omega)).trans t5)) ?_
    rw [u_nn, u_nn]
    rfl
  · have o2 : Old (m_n h) h h2 := ((((((Old.new (Nat.le_refl _)).tr (Old.sr (Nat.le_refl _))).tr (Old.si (Nat.le_refl _))).tr (Old.si (Nat.le_refl _))).tr (Old.si (Nat.le_refl _))).tr (Old.si (Nat.le_refl _)))
    have o3 : Old (m_n h) h h3 := o2.tr ((Old.new (by rw [n2]; omega)).tr (Old.sr (Nat.le_refl _)))
    have o4 : Old (m_n h) h h4 := o3.tr ((Old.new (by rw [n3]; omega)).tr (Old.sr (Nat.le_refl _)))
    have o5 : Old (m_n h) h h5 := o4.tr ((Old.new (by rw [n4]; omega)).tr (Old.sr (Nat.le_refl _)))
    exact o5.tr (((Old.new (by rw [n5]; omega)).tr (Old.sr (Nat.le_refl _))).tr (Old.sr (Nat.le_refl _)))
  · show m_r (m_sr (m_sr (m_new h5 _) (m_n h) 9 _) (m_n h) 0 _) (m_n h) 6 = _
    rw [m_r_srj (by decide), m_r_srj (by decide), r_newo (by rw [n5]; omega)]
    show m_r (m_sr (m_new h4 _) (m_n h) 8 _) (m_n h) 6 = _
    rw [m_r_srj (by decide), r_newo (by rw [n4]; omega)]
    show m_r (m_sr (m_new h3 _) (m_n h) 7 _) (m_n h) 6 = _
    rw [m_r_srj (by decide), r_newo (by rw [n3]; omega)]
    exact m_r_srs _ _ _ _
  · show m_r (m_sr (m_sr (m_new h5 _) (m_n h) 9 _) (m_n h) 0 _) (m_n h) 7 = _
    rw [m_r_srj (by decide), m_r_srj (by decide), r_newo (by rw [n5]; omega)]
    show m_r (m_sr (m_new h4 _) (m_n h) 8 _) (m_n h) 7 = _
    rw [m_r_srj (by decide), r_newo (by rw [n4]; omega)]
    exact m_r_srs _ _ _ _
  · show m_r (m_sr (m_sr (m_new h5 _) (m_n h) 9 _) (m_n h) 0 _) (m_n h) 8 = _
    rw [m_r_srj (by decide), m_r_srj (by decide), r_newo (by rw [n5]; omega)]
    exact m_r_srs _ _ _ _
  · show m_r (m_sr (m_sr (m_new h5 _) (m_n h) 9 _) (m_n h) 0 _) (m_n h) 9 = _
    rw [m_r_srj (by decide)]
    exact m_r_srs _ _ _ _
  · show m_t (m_new h5 _) (m_n h + 1) = _
    rw [t_newo (by rw [n5]; omega)]
    show m_t (m_new h4 _) (m_n h + 1) = _
    rw [t_newo (by rw [n4]; omega)]
    show m_t (m_new h3 _) (m_n h + 1) = _
    rw [t_newo (by rw [n3]; omega)]
    exact t_newn (h := h2)
  · show m_t (m_new h5 _) (m_n h + 2) = _
    rw [t_newo (by rw [n5]; omega)]
    show m_t (m_new h4 _) (m_n h + 2) = _
    rw [t_newo (by rw [n4]; omega)]
    exact t_newn (h := h3)
  · show m_t (m_new h5 _) (m_n h + 3) = _
    rw [t_newo (by rw [n5]; omega)]
    exact t_newn (h := h4)
  · exact t_newn (h := h5)
  · show m_i (m_new h5 (.inr (.int, 8))) (m_n h) k = 0
    rw [i_newo (by rw [n5]; omega)]
    show m_i (m_new h4 (.inr (.int, 8))) (m_n h) k = 0
    rw [i_newo (by rw [n4]; omega)]
    show m_i (m_new h3 (.inr (.int, 8))) (m_n h) k = 0
    rw [i_newo (by rw [n3]; omega)]
    show m_i (m_new h2 (.inr (.int, 8))) (m_n h) k = 0
    rw [i_newo (by rw [n2]; omega)]
    exact i2 k
  · show m_i (m_new h5 (.inr (.int, 8))) (m_n h + o) j = 0
    by_cases o4 : o = 4
    · subst o4; exact a3 h5 _ j n5
    rw [i_newo (by rw [n5]; omega)]
    show m_i (m_new h4 (.inr (.int, 8))) (m_n h + o) j = 0
    by_cases o3 : o = 3
    · subst o3; exact a3 h4 _ j n4
    rw [i_newo (by rw [n4]; omega)]
    show m_i (m_new h3 (.inr (.int, 8))) (m_n h + o) j = 0
    by_cases o2 : o = 2
    · subst o2; exact a3 h3 _ j n3
    rw [i_newo (by rw [n3]; omega)]
    show m_i (m_new h2 (.inr (.int, 8))) (m_n h + o) j = 0
    have o1 : o = 1 := by omega
    subst o1; exact a3 h2 _ j n2
theorem cpy8 (f g : Nat → Int32) {j : Nat} (hj : j < 8) : va_cpy f g 0 0 8 j = f j := by
  unfold va_cpy; rw [if_pos (by omega), Nat.zero_add, Nat.sub_zero]
/-- a cabin copied -/
theorem c_copyFrom (hC : Cab h c2 t v) (hN : sN v ≤ 8) (hS1 : CaS h c1) (hd : c1 + 5 ≤ c2 ∨ c2 + 5 ≤ c1) (hdt : c1 + 5 ≤ t ∨ t + 15 ≤ c1) : ∃ h', f_X0_copyFrom G c1 c2 h = some h' ∧ m_t h' = m_t h ∧ m_n h' = m_n h ∧ m_l h' = m_l h ∧ (∀ a, a ≠ c1 → m_r h' a = m_r h a) ∧ (∀ k, 2 ≤ k → m_r h' c1 k = m_r h c1 k) ∧ m_r h' c1 1 = m_r h c1 1 ∧ (∀ a, ¬ (c1 ≤ a ∧ a < c1 + 5) → m_i h' a = m_i h a) ∧ Cab h' c1 t v := by
  have e0 := hC.1.1
  let ha := m_sr h c1 0 (some t)
  let hb := m_si (m_si (m_si (m_si ha c1 2 (m_i h c2 2)) c1 3 (m_i h c2 3)) c1 4 (m_i h c2 4)) c1 5 (m_i h c2 5)
  let h1 := m_sa hb (c1 + 1) (va_cpy (m_i hb (c2 + 1)) (m_i hb (c1 + 1)) 0 0 8)
  let h2 := m_sa h1 (c1 + 2) (va_cpy (m_i h1 (c2 + 2)) (m_i h1 (c1 + 2)) 0 0 8)
  let h3 := m_sa h2 (c1 + 3) (va_cpy (m_i h2 (c2 + 3)) (m_i h2 (c1 + 3)) 0 0 8)
  let h4 := m_sa h3 (c1 + 4) (va_cpy (m_i h3 (c2 + 4)) (m_i h3 (c1 + 4)) 0 0 8)
  have rb : ∀ a, a ≠ c1 → m_r hb a = m_r h a := fun a q => by
    show m_r (m_sr h c1 0 _) a = _
    rw [m_r_srb q]
  have rk : ∀ k, 1 ≤ k → m_r hb c1 k = m_r h c1 k := fun k q => by
    show m_r (m_sr h c1 0 _) c1 k = _
    rw [m_r_srj (by omega)]
  have ib : ∀ a, a ≠ c1 → m_i hb a = m_i h a := fun a q => by
    show m_i (m_si (m_si (m_si (m_si ha c1 2 _) c1 3 _) c1 4 _) c1 5 _) a = _
    rw [m_i_sb q, m_i_sb q, m_i_sb q, m_i_sb q]; rfl
  have i4 : ∀ a, ¬ (c1 ≤ a ∧ a < c1 + 5) → m_i h4 a = m_i h a := fun a q => by
    show m_i (m_sa (m_sa (m_sa (m_sa hb (c1 + 1) _) (c1 + 2) _) (c1 + 3) _) (c1 + 4) _) a = _
    rw [m_i_sa, if_neg (by omega), m_i_sa, if_neg (by omega), m_i_sa, if_neg (by omega), m_i_sa, if_neg (by omega), ib a (by omega)]
  have ic : m_i h4 c1 = m_i hb c1 := by
    show m_i (m_sa (m_sa (m_sa (m_sa hb (c1 + 1) _) (c1 + 2) _) (c1 + 3) _) (c1 + 4) _) c1 = _
    rw [m_i_sa, if_neg (by omega), m_i_sa, if_neg (by omega), m_i_sa, if_neg (by omega), m_i_sa, if_neg (by omega)]
  have b2 : m_i hb c1 2 = m_i h c2 2 := by
    show m_i (m_si (m_si (m_si (m_si ha c1 2 _) c1 3 _) c1 4 _) c1 5 _) c1 2 = _
    rw [m_i_sj (by decide), m_i_sj (by decide), m_i_sj (by decide), m_i_ss]
  have b3 : m_i hb c1 3 = m_i h c2 3 := by
    show m_i (m_si (m_si (m_si (m_si ha c1 2 _) c1 3 _) c1 4 _) c1 5 _) c1 3 = _
    rw [m_i_sj (by decide), m_i_sj (by decide), m_i_ss]
  have b4 : m_i hb c1 4 = m_i h c2 4 := by
    show m_i (m_si (m_si (m_si (m_si ha c1 2 _) c1 3 _) c1 4 _) c1 5 _) c1 4 = _
    rw [m_i_sj (by decide), m_i_ss]
  have b5 : m_i hb c1 5 = m_i h c2 5 := m_i_ss _ _ _ _
  refine ⟨h4, ?_, rfl, rfl, rfl, rb, fun k q => rk k (by omega), rk 1 (by decide), i4, ?_⟩
  · unfold f_X0_copyFrom
    have d1 := hS1
    rw [u_ck e0.1, hC.1.2, u_ob, u_ck d1.1, u_nn, u_nn, u_nn, u_nn, u_nn]
    simp only [m_i_sr, m_i_sb (show c2 ≠ c1 by omega)]
    have al : ∀ (H : AH) (a : Nat), m_t H = m_t h → m_t h a = .inr (.int, 8) → alb H a .int = some 8 := fun H a e q => alb_e (by rw [e]; exact q)
    have r6 : m_r hb c2 6 = some (c2 + 1) := by rw [rb c2 (by omega)]; exact e0.2.1
    have r7 : m_r hb c2 7 = some (c2 + 2) := by rw [rb c2 (by omega)]; exact e0.2.2.1
    have r8 : m_r hb c2 8 = some (c2 + 3) := by rw [rb c2 (by omega)]; exact e0.2.2.2.1
    have r9 : m_r hb c2 9 = some (c2 + 4) := by rw [rb c2 (by omega)]; exact e0.2.2.2.2.1
    have s6 : m_r hb c1 6 = some (c1 + 1) := by rw [rk 6 (by decide)]; exact d1.2.1
    have s7 : m_r hb c1 7 = some (c1 + 2) := by rw [rk 7 (by decide)]; exact d1.2.2.1
    have s8 : m_r hb c1 8 = some (c1 + 3) := by rw [rk 8 (by decide)]; exact d1.2.2.2.1
    have s9 : m_r hb c1 9 = some (c1 + 4) := by rw [rk 9 (by decide)]; exact d1.2.2.2.2.1
    have cond : (¬ (0 : Int32) < 0 ∧ ¬ (0 : Int32) < 0 ∧ ¬ (8 : Int32) < 0 ∧ (0 : Int32).toNatClampNeg + (8 : Int32).toNatClampNeg ≤ 8 ∧ (0 : Int32).toNatClampNeg + (8 : Int32).toNatClampNeg ≤ 8) := by decide
    show ob (m_r hb c2 6) _ = _
    rw [r6, u_ob, s6, u_ob, al _ _ (by rfl) e0.2.2.2.2.2.1, u_ob, al _ _ (by rfl) d1.2.2.2.2.2.1, u_ob, u_ck cond, u_nn]
    show ob (m_r hb c2 7) _ = _
    rw [r7, u_ob]
    show ob (m_r hb c1 7) _ = _
    rw [s7, u_ob, al _ _ (by rfl) e0.2.2.2.2.2.2.1, u_ob, al _ _ (by rfl) d1.2.2.2.2.2.2.1, u_ob, u_ck cond, u_nn]
    show ob (m_r hb c2 8) _ = _
    rw [r8, u_ob]
    show ob (m_r hb c1 8) _ = _
    rw [s8, u_ob, al _ _ (by rfl) e0.2.2.2.2.2.2.2.1, u_ob, al _ _ (by rfl) d1.2.2.2.2.2.2.2.1, u_ob, u_ck cond, u_nn]
    show ob (m_r hb c2 9) _ = _
    rw [r9, u_ob]
    show ob (m_r hb c1 9) _ = _
    rw [s9, u_ob, al _ _ (by rfl) e0.2.2.2.2.2.2.2.2, u_ob, al _ _ (by rfl) d1.2.2.2.2.2.2.2.2, u_ob, u_ck cond, u_nn]
    rfl
  · have rt : ∀ a, t ≤ a → a < t + 15 → m_t h4 a = m_t h a ∧ m_r h4 a = m_r h a := fun a q1 q2 => ⟨rfl, rb a (by omega)⟩
    refine ⟨⟨hS1.hp (fun _ _ _ => rfl) (fun k hk => rk k (by omega)), ?_⟩, hC.2.1.hp rt, hC.2.2.1.hp hN (fun a q1 q2 => i4 a (by omega)), ?_, hdt⟩
    · show m_r (m_sr h c1 0 (some t)) c1 0 = _
      exact m_r_srs _ _ _ _
    · obtain ⟨g1, g2, g3, g4, g5⟩ := hC.2.2.2.1
      refine ⟨by rw [ic, b2]; exact g1, by rw [ic, b3]; exact g2, by rw [ic, b4]; exact g3, by rw [ic, b5]; exact g4, fun q hq => ?_⟩
      obtain ⟨k1, k2, k3, k4⟩ := g5 q hq
      have a1 : m_i h4 (c1 + 1) q = m_i h (c2 + 1) q := by
        show m_i (m_sa (m_sa (m_sa (m_sa hb (c1 + 1) _) (c1 + 2) _) (c1 + 3) _) (c1 + 4) _) (c1 + 1) q = _
        rw [m_i_sa, if_neg (by omega), m_i_sa, if_neg (by omega), m_i_sa, if_neg (by omega), m_i_sa, if_pos rfl, cpy8 _ _ (by omega), ib _ (by omega)]
      have a2 : m_i h4 (c1 + 2) q = m_i h (c2 + 2) q := by
        show m_i (m_sa (m_sa (m_sa h1 (c1 + 2) _) (c1 + 3) _) (c1 + 4) _) (c1 + 2) q = _
        rw [m_i_sa, if_neg (by omega), m_i_sa, if_neg (by omega), m_i_sa, if_pos rfl, cpy8 _ _ (by omega)]
        show m_i (m_sa hb (c1 + 1) _) (c2 + 2) q = _
        rw [m_i_sa, if_neg (by omega), ib _ (by omega)]
      have a3 : m_i h4 (c1 + 3) q = m_i h (c2 + 3) q := by
        show m_i (m_sa (m_sa h2 (c1 + 3) _) (c1 + 4) _) (c1 + 3) q = _
        rw [m_i_sa, if_neg (by omega), m_i_sa, if_pos rfl, cpy8 _ _ (by omega)]
        show m_i (m_sa (m_sa hb (c1 + 1) _) (c1 + 2) _) (c2 + 3) q = _
        rw [m_i_sa, if_neg (by omega), m_i_sa, if_neg (by omega), ib _ (by omega)]
      have a4 : m_i h4 (c1 + 4) q = m_i h (c2 + 4) q := by
        show m_i (m_sa h3 (c1 + 4) _) (c1 + 4) q = _
        rw [m_i_sa, if_pos rfl, cpy8 _ _ (by omega)]
        show m_i (m_sa (m_sa (m_sa hb (c1 + 1) _) (c1 + 2) _) (c1 + 3) _) (c2 + 4) q = _
        rw [m_i_sa, if_neg (by omega), m_i_sa, if_neg (by omega), m_i_sa, if_neg (by omega), ib _ (by omega)]
      rw [a1, a2, a3, a4]
      exact ⟨k1, k2, k3, k4⟩
end
