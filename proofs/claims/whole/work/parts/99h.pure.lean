/-! PURE 99h: both read a train: numbers, on the whole memory. -/
section
variable {G : GG} {X t N k : Nat} {T : Nat → Nat} {h h' h1 h2 : AH} {w w' w1 w2 wr wr' : MS} {wl : List (List Nat)} {f : Int32}
theorem Syn.cg (hs : Syn wl N T wr w k f) (e : ∀ r, r < 8 → wr'.1 r = wr.1 r) : Syn wl N T wr' w k f := by
  obtain ⟨a, b, c, d⟩ := hs
  refine ⟨⟨by rw [e 0 (by decide)]; exact a.1, fun q hq => by rw [e 2 (by decide), e 3 (by decide), e 4 (by decide)]; exact a.2 q hq⟩, ⟨b.1, by rw [e 0 (by decide)]; exact b.2.1, fun i hi => by rw [e 1 (by decide)]; exact b.2.2 i hi⟩, ⟨c.1, by rw [e 0 (by decide)]; exact c.2.1, by rw [e 0 (by decide)]; exact c.2.2.1, by rw [e 0 (by decide)]; exact c.2.2.2.1, by rw [e 0 (by decide)]; exact c.2.2.2.2⟩, d⟩
theorem Syn.cw (hs : Syn wl N T wr w k f) (e0 : ∀ j, j = 32 ∨ j = 33 ∨ j = 34 → w'.1 0 j = w.1 0 j) (e42 : w'.1 42 = w.1 42) : Syn wl N T wr w' k f := by
  obtain ⟨a, b, c, d, g1, p, g2, g3, g4⟩ := hs
  exact ⟨a, b, c, d.cg (e0 32 (by omega)) e42, by rw [e0 34 (by omega)]; exact g1, p, by rw [e0 33 (by omega)]; exact g2, g3, g4⟩
/-- both stand at token k; the class's tape lies behind X -/
def SyH (wl : List (List Nat)) (N : Nat) (T : Nat → Nat) (X : Nat) (h : AH) (w : MS) (k : Nat) (f : Int32) : Prop := RI h (X + 1) ∧ Syn wl N T (rs_of h (X + 1)) w k f
theorem RI.cg (hI : RI h (X + 1)) (ht : m_t h' = m_t h) (hr : m_r h' = m_r h) : RI h' (X + 1) := ⟨fun q hq => by rw [ht]; exact hI.1 q hq, fun q hq => by rw [hr]; exact hI.2 q hq⟩
theorem SyH.fr (hs : SyH wl N T X h w k f) (ht : m_t h' = m_t h) (hr : m_r h' = m_r h) (hi : ∀ o, o < 8 → m_i h' (X + 1 + o) = m_i h (X + 1 + o)) : SyH wl N T X h' w k f := ⟨hs.1.cg ht hr, hs.2.cg (fun r hr => hi r hr)⟩
theorem SyH.si (hs : SyH wl N T X h w k f) {a j : Nat} {y : Int32} (ha : X + 9 ≤ a) : SyH wl N T X (m_si h a j y) w k f := hs.fr rfl rfl (fun o ho => m_i_sb (by omega))
theorem SyH.s6 (hs : SyH wl N T X h w k f) {j : Nat} {y : Int32} : SyH wl N T X (m_si h (X + 6) j y) w k f := by
  refine ⟨hs.1.cg rfl rfl, ?_⟩
  obtain ⟨a, b, c, d⟩ := hs.2
  have e : ∀ r, r < 5 → (rs_of (m_si h (X + 6) j y) (X + 1)).1 r = (rs_of h (X + 1)).1 r := fun r hr => m_i_sb (by omega)
  refine ⟨⟨by rw [e 0 (by decide)]; exact a.1, fun q hq => by rw [e 2 (by decide), e 3 (by decide), e 4 (by decide)]; exact a.2 q hq⟩, ⟨b.1, by rw [e 0 (by decide)]; exact b.2.1, fun i hi => by rw [e 1 (by decide)]; exact b.2.2 i hi⟩, ⟨c.1, by rw [e 0 (by decide)]; exact c.2.1, by rw [e 0 (by decide)]; exact c.2.2.1, by rw [e 0 (by decide)]; exact c.2.2.2.1, by rw [e 0 (by decide)]; exact c.2.2.2.2⟩, d⟩
theorem SyH.cw (hs : SyH wl N T X h w k f) (e0 : ∀ j, j = 32 ∨ j = 33 ∨ j = 34 → w'.1 0 j = w.1 0 j) (e42 : w'.1 42 = w.1 42) : SyH wl N T X h w' k f := ⟨hs.1, hs.2.cw e0 e42⟩
theorem SyH.ws (hs : SyH wl N T X h w k f) {r j : Nat} {y : Int32} (hr : r ≠ 0 ∧ r ≠ 42) : SyH wl N T X h (w_si w r j y) k f := hs.cw (fun i _ => by rw [w_si_r (Ne.symm hr.1)]) (w_si_r (Ne.symm hr.2))
/-- the rows laid back into the memory -/
theorem rh_f {T0 : Nat} (hF : FrC (rs_of h T0) wr') : Fr (fun a => a = T0) h (rh h T0 wr') ∧ ∀ o, o < 8 → m_i (rh h T0 wr') (T0 + o) = wr'.1 o := by
  have iin : ∀ o, o < 8 → m_i (rh h T0 wr') (T0 + o) = wr'.1 o := fun o ho => by
    show (if T0 ≤ T0 + o ∧ T0 + o < T0 + 8 then wr'.1 (T0 + o - T0) else m_i h (T0 + o)) = _
    rw [if_pos (by omega), Nat.add_sub_cancel_left]
  refine ⟨⟨rfl, rfl, rfl, fun a ha => ⟨?_, rfl⟩⟩, iin⟩
  by_cases z : T0 ≤ a ∧ a < T0 + 8
  · obtain ⟨o, rfl⟩ : ∃ o, a = T0 + o := ⟨a - T0, by omega⟩
    rw [iin o (by omega), hF.1 o (by omega)]; rfl
  · show (if T0 ≤ a ∧ a < T0 + 8 then wr'.1 (a - T0) else m_i h a) = _
    rw [if_neg z]
theorem lri_e {P : MS → Option (Int32 × MS)} {r : Int32} (hI : RI h (X + 1)) (hp : P (rs_of h (X + 1)) = some (r, wr')) : lri 0 (X + 1) P h = some (r, rh h (X + 1) wr') := by
  unfold lri
  refine Eq.trans (@if_pos (0 ≤ X + 1 ∧ RI h (X + 1 - 0)) (Classical.propDecidable _) ⟨Nat.zero_le _, hI⟩ _ _ _) ?_
  show ob (P (rs_of h (X + 1))) _ = _
  rw [hp, u_ob]; rfl
theorem lrv_e {P : MS → Option MS} (hI : RI h (X + 1)) (hp : P (rs_of h (X + 1)) = some wr') : lrv 0 (X + 1) P h = some (rh h (X + 1) wr') := by
  unfold lrv
  refine Eq.trans (@if_pos (0 ≤ X + 1 ∧ RI h (X + 1 - 0)) (Classical.propDecidable _) ⟨Nat.zero_le _, hI⟩ _ _ _) ?_
  show ob (P (rs_of h (X + 1))) _ = _
  rw [hp, u_ob]; rfl
theorem SyH.rh (hs : SyH wl N T X h w k f) {w' : MS} {k' : Nat} {f' : Int32} (hF : FrC (rs_of h (X + 1)) wr') (hn : Syn wl N T wr' w' k' f') : SyH wl N T X (rh h (X + 1) wr') w' k' f' :=
  ⟨hs.1.cg rfl rfl, hn.cg (fun r hr => (rh_f hF).2 r hr)⟩
/-- a number -/
theorem numH (hl20 : wl.length ≤ 20) (hs : SyH wl N T X h w k f) {lo hi : Int32} (hlo : 0 ≤ lo.toInt) : ∃ r r' h' w' k' f', lri 0 (X + 1) (s_X8_takeNumber G lo hi) h = some (r, h') ∧ p_X12_amount G lo hi w = some (r', w') ∧ SyH wl N T X h' w' k' f' ∧ Fr (fun a => a = X + 1) h h' ∧ FrW w w' ∧ (f ≠ 0 → f' = f) ∧ (f' = 0 → f = 0 ∧ r = r' ∧ lo ≤ r ∧ r ≤ hi) ∧ (f' ≠ 0 → r = -1) := by
  obtain ⟨r, r', wr', w', k', f', a1, a2, a3, a4, a5, a6, a7, a8⟩ := num_both (G := G) hl20 hs.2 (lo := lo) (hi := hi) hlo
  exact ⟨r, r', rh h (X + 1) wr', w', k', f', lri_e hs.1 a1, a2, hs.rh a4 a3, (rh_f a4).1, a5, a6, fun q => ⟨(a7 q).1, (a7 q).2.1, (a7 q).2.2.1, (a7 q).2.2.2.1⟩, a8⟩
/-- after a fault no number is read, whatever its bounds -/
theorem numF (hs : SyH wl N T X h w k f) (hf : f ≠ 0) (lo hi lo' hi' : Int32) : ∃ r r' h' w' k' f', lri 0 (X + 1) (s_X8_takeNumber G lo hi) h = some (r, h') ∧ p_X12_amount G lo' hi' w = some (r', w') ∧ SyH wl N T X h' w' k' f' ∧ Fr (fun a => a = X + 1) h h' ∧ FrW w w' ∧ f' = f ∧ r = -1 := by
  obtain ⟨hK, hX, hC, hT, hW⟩ := hs.2
  have h0 := hC.2.2.2.2
  obtain ⟨wa, a1, a2, a3⟩ := blanks_F (G := G) hT hW hf
  have cl : ∀ c : Int32, s_X8_fail G c (rs_of h (X + 1)) = some (rs_of h (X + 1)) := fun c => by unfold s_X8_fail; rw [h0, if_neg hf]
  have c1 : s_X8_takeNumber G lo hi (rs_of h (X + 1)) = some (-1, rs_of h (X + 1)) := by
    unfold s_X8_takeNumber
    rw [u_nn]
    by_cases z : (rs_of h (X + 1)).1 0 7 = 256
    · rw [if_pos z, u_nn]
      by_cases y : (rs_of h (X + 1)).1 0 8 < lo
      · rw [if_pos y]; dsimp only; rw [cl, u_ob, h0, if_neg hf]
      · rw [if_neg y]
        by_cases u : (rs_of h (X + 1)).1 0 8 ≤ hi
        · rw [if_pos u]; dsimp only; rw [h0, if_neg hf]
        · rw [if_neg u]; dsimp only; rw [cl, u_ob, h0, if_neg hf]
    · rw [if_neg z, cl, u_ob]; dsimp only; rw [h0, if_neg hf]
  have c2 : p_X12_amount G lo' hi' w = some (0, wa) := by
    unfold p_X12_amount
    have e34 : wa.1 0 34 = f := a3.1
    rw [a1, u_ob, u_nn, u_nn, e34, if_neg hf]
    dsimp only
    rw [e34, if_neg hf]
  have hF : FrC (rs_of h (X + 1)) (rs_of h (X + 1)) := FrC.rf
  exact ⟨-1, 0, _, wa, k, f, lri_e hs.1 c1, c2, hs.rh hF ⟨hK, hX, hC, a2.tx hT, a3⟩, (rh_f hF).1, a2, rfl, rfl⟩
/-- the reader's own cells -/
theorem rd6 (hI : RI h (X + 1)) : m_t h (X + 6) = .inl 10 ∧ m_r h (X + 6) 0 = some (X + 1) ∧ m_t h (X + 1) = .inl 8 := ⟨hI.1 (5, .inl 10) rT5, hI.2 (5, 0, 0) (by simp [rR]), hI.1 (0, .inl 8) rT0⟩
/-- the new train's numbers are the reference's new rows -/
def fr20 (w : MS) (q : Nat) : Int32 := (w.1 20 7 >>> (nI q &&& 31)) &&& 1
def TDq (h : AH) (t : Nat) (w : MS) (q : Nat) : Prop := (m_i h (t + 7 + q) 0 = w.1 21 q ∧ m_i h (t + 7 + q) 1 = w.1 22 q ∧ m_i h (t + 7 + q) 2 = w.1 23 q ∧ m_i h (t + 7 + q) 3 = w.1 24 q ∧ m_i h (t + 7 + q) 4 = w.1 25 q ∧ m_i h (t + 7 + q) 5 = w.1 26 q) ∧ bd (w.1 21 q) 0 7 ∧ bd (w.1 22 q) 0 239 ∧ (w.1 22 q).toInt < (w.1 23 q).toInt ∧ bd (w.1 23 q) 1 240 ∧ bd (w.1 24 q) 0 60 ∧ bd (w.1 25 q) 0 20 ∧ bd (w.1 26 q) (-9) 9
def TDs (h : AH) (X t : Nat) (w : MS) : Prop := m_i h t 1 = w.1 20 1 ∧ bd (w.1 20 1) 0 60 ∧ m_i h t 2 = w.1 20 2 ∧ bd (w.1 20 2) 0 3 ∧ m_i h t 3 = w.1 20 3 ∧ bd (w.1 20 3) 0 6 ∧ m_i h t 4 = w.1 20 4 ∧ bd (w.1 20 4) 0 5 ∧ m_i h (X + 6) 1 = w.1 20 5 ∧ (w.1 20 5 = 0 ∨ w.1 20 5 = 1)
def TDc (h : AH) (t : Nat) (w : MS) (n a b : Nat) : Prop := n ≤ 8 ∧ a ≤ 5 ∧ b ≤ 5 ∧ w.1 20 6 = nI n ∧ w.1 20 8 = nI a ∧ w.1 20 9 = nI b ∧ m_i h t 5 = nI n ∧ m_i h t 7 = nI a ∧ m_i h t 10 = nI b
def TDf (h : AH) (t : Nat) (w : MS) (n : Nat) : Prop := (∃ F : Nat, F < 256 ∧ w.1 20 7 = nI F) ∧ (∀ q, q < 8 → m_i h (t + 7 + q) 6 = fr20 w q) ∧ ∀ q, n ≤ q → q < 8 → m_i h (t + 7 + q) 5 = 0
def TDt (h : AH) (t : Nat) (w : MS) (a b : Nat) : Prop := (∀ i, i < a → m_i h (t + 2) i = w.1 27 i ∧ m_i h (t + 3) i = w.1 28 i ∧ bd (w.1 27 i) 0 239 ∧ bd (w.1 28 i) 0 239) ∧ ∀ i, i < b → m_i h (t + 4) i = w.1 29 i ∧ m_i h (t + 5) i = w.1 30 i ∧ m_i h (t + 6) i = w.1 31 i ∧ bd (w.1 31 i) 1 4
def TD (h : AH) (X t : Nat) (w : MS) : Prop := TDs h X t w ∧ ∃ n a b, TDc h t w n a b ∧ TDf h t w n ∧ TDt h t w a b ∧ ∀ q, q < n → TDq h t w q
/-- cells of the train and of its reader -/
def STn (X t a : Nat) : Prop := a = X + 1 ∨ a = X + 6 ∨ (t ≤ a ∧ a < t + 15)
theorem TrS.fr' {S : Nat → Prop} (hT : TrS h t) (hF : Fr S h h') : TrS h' t := by unfold TrS at hT ⊢; rw [hF.1, hF.2.1]; exact hT
/-- the tape alone has changed: the train stays -/
theorem TD.f1 (hd : TD h X t w) (hF : Fr (fun a => a = X + 1) h h') (hX : X + 122 ≤ t) (hW : FrW w w') : TD h' X t w' := by
  obtain ⟨s, n, a, b, c, g, u, q⟩ := hd
  have e : ∀ a, X + 6 ≤ a → m_i h' a = m_i h a := fun a ha => (hF.2.2.2 a (by omega)).1
  have er : ∀ r, r ≠ 0 → w'.1 r = w.1 r := hW.1
  have ef : ∀ q, fr20 w' q = fr20 w q := fun q => by unfold fr20; rw [er 20 (by decide)]
  refine ⟨?_, n, a, b, ?_, ?_, ?_, fun i hi => ?_⟩
  · unfold TDs at s ⊢; rw [e t (by omega), e (X + 6) (by omega), er 20 (by decide)]; exact s
  · unfold TDc at c ⊢; rw [e t (by omega), er 20 (by decide)]; exact c
  · refine ⟨by rw [er 20 (by decide)]; exact g.1, fun q hq => by rw [e _ (by omega), ef]; exact g.2.1 q hq, fun q h1 h2 => by rw [e _ (by omega)]; exact g.2.2 q h1 h2⟩
  · refine ⟨fun i hi => by rw [e _ (by omega), e _ (by omega), er 27 (by decide), er 28 (by decide)]; exact u.1 i hi, fun i hi => by rw [e _ (by omega), e _ (by omega), e _ (by omega), er 29 (by decide), er 30 (by decide), er 31 (by decide)]; exact u.2 i hi⟩
  · have := q i hi
    unfold TDq at this ⊢
    rw [e _ (by omega), er 21 (by decide), er 22 (by decide), er 23 (by decide), er 24 (by decide), er 25 (by decide), er 26 (by decide)]; exact this
theorem bd_r {x lo hi : Int32} {a b : Int} (h1 : lo ≤ x) (h2 : x ≤ hi) (ha : a = lo.toInt) (hb : b = hi.toInt) : bd x a b := by
  rw [I_le] at h1 h2; unfold bd; omega
/-- what a clause comes to, on both sides -/
def Cls (b : Prop) (wl : List (List Nat)) (N : Nat) (T : Nat → Nat) (X t : Nat) (h : AH) (w : MS) (F : Option AH) (P : Option MS) : Prop := ∃ h' w' k' f', F = some h' ∧ P = some w' ∧ SyH wl N T X h' w' k' f' ∧ Fr (STn X t) h h' ∧ (∀ r, (r ≠ 0 ∧ r < 20) ∨ 31 < r → w'.1 r = w.1 r) ∧ (∀ j, j ≠ 33 → j ≠ 34 → w'.1 0 j = w.1 0 j) ∧ (f' = 0 → TD h' X t w' ∧ (w.1 20 0 = 1 ∨ b → w'.1 20 0 = 1))
end
