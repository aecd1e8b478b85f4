/-! PURE 99ye: the reference's open signs. -/
section
variable {G : GG} {X t N k n j p r c E C W m M dp : Nat} {T : Nat → Nat} {w w' w0 w1 w2 w6 wr wr' wr1 : MS} {f v1 : Int32} {st : List Int32}
def OSt (g : Nat → Int32) : List Int32 → Prop
  | [] => True
  | a :: st => g st.length = a ∧ OSt g st
theorem OSt.cg {g g' : Nat → Int32} : ∀ {st : List Int32}, OSt g st → (∀ i, i < st.length → g' i = g i) → OSt g' st
  | [], _, _ => trivial
  | a :: st, h, e => ⟨(e st.length (by show st.length < st.length + 1; omega)).trans h.1, h.2.cg (fun i hi => e i (by show i < st.length + 1; omega))⟩
/-- the open signs are st, the newest first -/
def OS (w : MS) (st : List Int32) : Prop := w.1 0 40 = nI st.length ∧ OSt (w.1 49) st ∧ st.length ≤ 401
theorem OS.cg (h : OS w st) (e0 : w'.1 0 40 = w.1 0 40) (e : w'.1 49 = w.1 49) : OS w' st := ⟨by rw [e0]; exact h.1, by rw [e]; exact h.2.1, h.2.2⟩
theorem p_top' (h : OS w st) : p_X12_top G w = some (st.headD (-1), w) := by
  unfold p_X12_top
  rw [h.1]
  cases st with
  | nil => rw [if_pos (show nI ([] : List Int32).length = 0 from rfl)]; rfl
  | cons a s =>
    have hl : s.length + 1 ≤ 401 := h.2.2
    rw [if_neg (show ¬ nI (a :: s).length = 0 from nI_ne0 (by show 0 < s.length + 1; omega) (by show s.length + 1 < 2 ^ 31; omega)), show nI (a :: s).length - 1 = nI s.length from nI_pred s.length, u_ck (u_ixn (by omega) (by decide)), nI_clamp (by omega), h.2.1.1]
    rfl
theorem OS.push (h : OS w st) (hl : st.length ≤ 400) (a : Int32) : OS (w_si (w_si w 49 st.length a) 0 40 (nI (st.length + 1))) (a :: st) := by
  refine ⟨w_si_s _ _ _ _, ⟨?_, ?_⟩, by show st.length + 1 ≤ 401; omega⟩
  · rw [w_si_r (by decide), w_si_s]
  · refine h.2.1.cg (fun i hi => ?_)
    rw [w_si_r (by decide), w_si_j (by omega)]
theorem OS.pop {a : Int32} (h : OS w (a :: st)) : OS (w_si w 0 40 (nI st.length)) st := ⟨w_si_s _ _ _ _, by rw [w_si_r (by decide)]; exact h.2.1.2, by have : st.length + 1 ≤ 401 := h.2.2; omega⟩
/-- a joint is opened -/
theorem p_opJ (h : OS w st) (hl : st.length ≤ 400) {a : Int32} (ha : a = 10 ∨ a = 11) : p_X12_opens G a w = some (w_si (w_si w 49 st.length a) 0 40 (nI (st.length + 1))) := by
  have a9 : ¬ a = 9 := by rcases ha with rfl | rfl <;> decide
  have a12 : ¬ a = 12 := by rcases ha with rfl | rfl <;> decide
  unfold p_X12_opens
  rw [u_nn, u_nn, if_neg a9, if_neg a12]
  dsimp only
  rw [h.1, u_ck (u_ixn (by omega) (by decide)), nI_clamp (by omega), u_nn, w_si_r (show 0 ≠ 49 by decide), h.1, nI_1, u_nn]
/-- a not, a bracket -/
theorem p_opN (h : OS w st) (hl : st.length ≤ 400) {a : Int32} (ha : a = 9 ∨ a = 12) (h38 : w.1 0 38 = nI dp) (hd : dp < 10) : p_X12_opens G a w = some (w_si (w_si (w_si w 0 38 (nI (dp + 1))) 49 st.length a) 0 40 (nI (st.length + 1))) := by
  have n38 : ¬ nI dp = (10 : Int32) := fun q => by have := (nI_eq (a := dp) (b := 10) (by omega) (by decide)).mp q; omega
  have e40 : (w_si w 0 38 (nI (dp + 1))).1 0 40 = nI st.length := by rw [w_si_j (by decide)]; exact h.1
  have e40' : (w_si (w_si w 0 38 (nI (dp + 1))) 49 st.length a).1 0 40 = nI st.length := by rw [w_si_r (by decide)]; exact e40
  have x : ixn 402 (nI st.length) = true := u_ixn (by omega) (by decide)
  unfold p_X12_opens
  rcases ha with rfl | rfl
  · simp only [u_nn, if_true, h38, if_neg n38, nI_1, e40, u_ck x, nI_clamp (show st.length < 2 ^ 31 by omega), e40']
  · simp only [u_nn, if_neg (show ¬ (12 : Int32) = 9 by decide), if_true, h38, if_neg n38, nI_1, e40, u_ck x, nI_clamp (show st.length < 2 ^ 31 by omega), e40']
/-- too deep -/
theorem p_opB (h : OS w st) (hl : st.length ≤ 400) {a : Int32} (ha : a = 9 ∨ a = 12) (h38 : w.1 0 38 = nI 10) (h34 : w.1 0 34 = 0) : ∃ w', p_X12_opens G a w = some w' ∧ (∀ x, x ≠ 0 → x ≠ 49 → w'.1 x = w.1 x) ∧ (∀ j, j ≠ 34 → j ≠ 38 → j ≠ 40 → w'.1 0 j = w.1 0 j) ∧ w'.1 0 34 = ((1 : Int32) + (8 : Int32) * w.1 0 33) + 2 := by
  obtain ⟨w1, d1, d2, d3, d4⟩ := p_fails' (G := G) h34 2 (w.1 0 33)
  rw [if_pos rfl] at d4
  have e40 : (w_si w1 0 38 (w1.1 0 38 + 1)).1 0 40 = nI st.length := by rw [w_si_j (by decide), d2.2 40 (by decide) (by decide)]; exact h.1
  have x : ixn 402 (nI st.length) = true := u_ixn (by omega) (by decide)
  refine ⟨w_si (w_si (w_si w1 0 38 (w1.1 0 38 + 1)) 49 st.length a) 0 40 ((w_si (w_si w1 0 38 (w1.1 0 38 + 1)) 49 st.length a).1 0 40 + 1), ?_, fun x y1 y2 => by rw [w_si_r y1, w_si_r y2, w_si_r y1, d2.1 x y1], fun j y1 y2 y3 => ?_, ?_⟩
  · unfold p_X12_opens
    have n38 : w.1 0 38 = (10 : Int32) := h38
    rcases ha with rfl | rfl
    · simp only [u_nn, if_true, n38, d1, u_ob, e40, u_ck x, nI_clamp (show st.length < 2 ^ 31 by omega)]
    · simp only [u_nn, if_neg (show ¬ (12 : Int32) = 9 by decide), if_true, n38, d1, u_ob, e40, u_ck x, nI_clamp (show st.length < 2 ^ 31 by omega)]
  · rw [w_si_j y3, w_si_r (by decide), w_si_j y2]
    by_cases y : j = 33
    · rw [y, d3]
    · exact d2.2 j y y1
  · rw [w_si_j (by decide), w_si_r (by decide), w_si_j (by decide), d4]
/-- signs answered -/
theorem an_no (h : OS w st) {a : Int32} (ha : st.headD (-1) ≠ a) : lw0 (P_X12_answers_0 G a) (m + 1) w = some w := by
  show P_X12_answers_0 G a _ _ = _
  unfold P_X12_answers_0
  rw [p_top' h, u_cw, if_neg ha]
theorem an_F (h : OS w st) (h34 : w.1 0 34 ≠ 0) {a : Int32} : lw0 (P_X12_answers_0 G a) (m + 1) w = some w := by
  show P_X12_answers_0 G a _ _ = _
  unfold P_X12_answers_0
  rw [p_top' h, u_cw]
  by_cases z : st.headD (-1) = a
  · rw [if_pos z, if_neg h34]
  · rw [if_neg z]
theorem an_yes {a : Int32} (h : OS w (a :: st)) (h34 : w.1 0 34 = 0) (he : p_X12_entry G a 0 w = some w6) (h6 : w6.1 0 40 = w.1 0 40) : lw0 (P_X12_answers_0 G a) (m + 1) w = lw0 (P_X12_answers_0 G a) m (w_si (w_si w6 0 40 (nI st.length)) 0 38 ((w_si w6 0 40 (nI st.length)).1 0 38 - (if a = 9 then 1 else 0))) := by
  show P_X12_answers_0 G a _ _ = _
  have e : w6.1 0 40 - 1 = nI st.length := by rw [h6, h.1]; exact nI_pred st.length
  unfold P_X12_answers_0
  rw [p_top' h, u_cw, if_pos (show (a :: st).headD (-1) = a from rfl), if_pos h34, he, u_ob, e, u_nn, u_nn]
  by_cases z : a = 9
  · rw [if_pos z, if_pos z]; dsimp only; rw [u_nn]
  · rw [if_neg z, if_neg z]; dsimp only; rw [u_nn]
end
