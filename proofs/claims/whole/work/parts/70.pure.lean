/-! PURE 70: a rule's steps gone through, on both sides. -/
abbrev EN : Type := Int32 × Int32
def bothI (k : Int32) (a b : Int64) : Int64 :=
  if k = 2 then a + b else if k = 3 then a - b else if k = 4 then (if a < b then 1 else 0) else if k = 5 then (if a ≤ b then 1 else 0) else if k = 6 then (if a = b then 1 else 0) else if k = 7 then (if b ≤ a then 1 else 0) else if k = 8 then (if b < a then 1 else 0) else if k = 10 then a &&& b else if k = 13 then a * b else if k = 14 then (if b = 0 then 0 else a / b) else if k = 15 then (if b = 0 then 0 else a - a / b * b) else a ||| b
def encI (e : EN) : Int32 :=
  if e.1 = 0 then e.2 else if e.1 = 1 then -(300 + e.2) else if e.1 = 2 then -43 else if e.1 = 3 then -45 else if e.1 = 4 then -60 else if e.1 = 5 then -259 else if e.1 = 6 then -61 else if e.1 = 7 then -260 else if e.1 = 8 then -62 else if e.1 = 9 then -317 else if e.1 = 10 then -316 else if e.1 = 11 then -315 else if e.1 = 13 then -42 else if e.1 = 14 then -47 else -37
def isOp (k : Int32) : Prop := k = 2 ∨ k = 3 ∨ k = 4 ∨ k = 5 ∨ k = 6 ∨ k = 7 ∨ k = 8 ∨ k = 10 ∨ k = 11 ∨ k = 13 ∨ k = 14 ∨ k = 15
def EV (e : EN) : Prop := (e.1 = 0 ∧ 0 ≤ e.2) ∨ (e.1 = 1 ∧ ∃ i, i < 13 ∧ e.2 = nI i) ∨ e.1 = 9 ∨ isOp e.1
/-- kinds on the stack: true what is 0 or 1 -/
def tyS (ts : List Bool) (e : EN) : Option (List Bool) :=
  if e.1 = 0 ∨ e.1 = 1 then (if ts.length < 60 then some (false :: ts) else none) else
  match ts with
  | [] => none
  | a :: r => if e.1 = 9 then (if a then some (true :: r) else none) else
    match r with
    | [] => none
    | b :: r2 => if e.1 = 10 ∨ e.1 = 11 then (if a && b then some (true :: r2) else none) else (if a || b then none else some (decide (e.1 = 4 ∨ e.1 = 5 ∨ e.1 = 6 ∨ e.1 = 7 ∨ e.1 = 8) :: r2))
def tyR : List Bool → List EN → Option (List Bool)
  | ts, [] => some ts
  | ts, e :: es => match tyS ts e with
    | none => none
    | some u => tyR u es
def evS (ask : Nat → Int64) (st : List Int64) (e : EN) : List Int64 :=
  if e.1 = 0 then e.2.toInt64 :: st else if e.1 = 1 then ask e.2.toNatClampNeg :: st else
  match st with
  | [] => []
  | a :: r => if e.1 = 9 then (1 - a) :: r else
    match r with
    | [] => []
    | b :: r2 => bothI e.1 b a :: r2
def evR (ask : Nat → Int64) : List Int64 → List EN → List Int64
  | st, [] => st
  | st, e :: es => evR ask (evS ask st e) es
def tok : List Bool → List Int64 → Prop
  | [], [] => True
  | b :: bs, x :: xs => (b = true → x = 0 ∨ x = 1) ∧ tok bs xs
  | _, _ => False
theorem tok_len : ∀ {ts : List Bool} {st : List Int64}, tok ts st → st.length = ts.length
  | [], [], _ => rfl
  | _ :: _, _ :: _, h => by simp [tok_len h.2]
  | [], _ :: _, h => h.elim
  | _ :: _, [], h => h.elim
theorem and01 {a b : Int64} (ha : a = 0 ∨ a = 1) (hb : b = 0 ∨ b = 1) : (a &&& b = 0 ∨ a &&& b = 1) ∧ (a ||| b = 0 ∨ a ||| b = 1) := by
  rcases ha with rfl | rfl <;> rcases hb with rfl | rfl <;> decide
theorem evS_0 {ask : Nat → Int64} {st : List Int64} {e : EN} (h0 : e.1 = 0) : evS ask st e = e.2.toInt64 :: st := by
  unfold evS; rw [if_pos h0]
theorem evS_1 {ask : Nat → Int64} {st : List Int64} {e : EN} (h1 : e.1 = 1) : evS ask st e = ask e.2.toNatClampNeg :: st := by
  unfold evS; rw [if_neg (by rw [h1]; decide), if_pos h1]
theorem evS_9 {ask : Nat → Int64} {a : Int64} {r : List Int64} {e : EN} (h9 : e.1 = 9) : evS ask (a :: r) e = (1 - a) :: r := by
  unfold evS; rw [if_neg (by rw [h9]; decide), if_neg (by rw [h9]; decide)]; simp only [if_pos h9]
theorem evS_b {ask : Nat → Int64} {a b : Int64} {r : List Int64} {e : EN} (h0 : ¬ e.1 = 0) (h1 : ¬ e.1 = 1) (h9 : ¬ e.1 = 9) : evS ask (a :: b :: r) e = bothI e.1 b a :: r := by
  unfold evS; rw [if_neg h0, if_neg h1]; simp only [if_neg h9]
/-- one step keeps the kinds, and leaves alone what lies below -/
theorem ev_ty {ask : Nat → Int64} {ts ts' : List Bool} {st : List Int64} {e : EN} (ht : tok ts st) (h : tyS ts e = some ts') : tok ts' (evS ask st e) ∧ ∀ base, evS ask (st ++ base) e = evS ask st e ++ base := by
  unfold tyS at h
  by_cases h0 : e.1 = 0
  · rw [if_pos (Or.inl h0)] at h
    split at h
    · cases h; rw [evS_0 h0]; exact ⟨⟨(fun q => absurd q (by decide)), ht⟩, fun base => by rw [evS_0 h0]; rfl⟩
    · cases h
  · by_cases h1 : e.1 = 1
    · rw [if_pos (Or.inr h1)] at h
      split at h
      · cases h; rw [evS_1 h1]; exact ⟨⟨(fun q => absurd q (by decide)), ht⟩, fun base => by rw [evS_1 h1]; rfl⟩
      · cases h
    · rw [if_neg (fun q => q.elim h0 h1)] at h
      match ts, st, ht, h with
      | [], [], _, h => cases h
      | [a], [x], ht, h =>
        simp only at h
        by_cases h9 : e.1 = 9
        · rw [if_pos h9] at h
          split at h
          · rename_i ha
            cases h
            rw [evS_9 h9]
            refine ⟨⟨fun _ => ?_, trivial⟩, fun base => by rw [List.cons_append, evS_9 h9]; rfl⟩
            rcases ht.1 ha with rfl | rfl <;> decide
          · cases h
        · rw [if_neg h9] at h; cases h
      | a :: b :: r, x :: y :: xs, ht, h =>
        simp only at h
        by_cases h9 : e.1 = 9
        · rw [if_pos h9] at h
          split at h
          · rename_i ha
            cases h
            rw [evS_9 h9]
            refine ⟨⟨fun _ => ?_, ht.2⟩, fun base => by rw [List.cons_append, evS_9 h9]; rfl⟩
            rcases ht.1 ha with rfl | rfl <;> decide
          · cases h
        · rw [if_neg h9] at h
          rw [evS_b h0 h1 h9]
          refine ⟨?_, fun base => by rw [List.cons_append, List.cons_append, evS_b h0 h1 h9]; rfl⟩
          by_cases hb : e.1 = 10 ∨ e.1 = 11
          · rw [if_pos hb] at h
            split at h
            · rename_i hab
              cases h
              rw [Bool.and_eq_true] at hab
              refine ⟨fun _ => ?_, ht.2.2⟩
              have := and01 (ht.2.1 hab.2) (ht.1 hab.1)
              rcases hb with hb | hb
              · unfold bothI; rw [hb]; exact this.1
              · unfold bothI; rw [hb]; exact this.2
            · cases h
          · rw [if_neg hb] at h
            split at h
            · cases h
            · cases h
              refine ⟨fun hc => ?_, ht.2.2⟩
              rw [decide_eq_true_eq] at hc
              have d01 : ∀ (p : Prop) [Decidable p], (if p then (1 : Int64) else 0) = 0 ∨ (if p then (1 : Int64) else 0) = 1 := fun p _ => by
                by_cases hp : p
                · rw [if_pos hp]; exact Or.inr rfl
                · rw [if_neg hp]; exact Or.inl rfl
              rcases hc with hc | hc | hc | hc | hc
              · rw [hc]; exact d01 (y < x)
              · rw [hc]; exact d01 (y ≤ x)
              · rw [hc]; exact d01 (y = x)
              · rw [hc]; exact d01 (x ≤ y)
              · rw [hc]; exact d01 (x < y)
theorem tyS_le {ts ts' : List Bool} {e : EN} (h : tyS ts e = some ts') (hl : ts.length ≤ 60) : ts'.length ≤ 60 := by
  unfold tyS at h
  split at h
  · split at h
    · cases h; simp; omega
    · cases h
  · match ts, h, hl with
    | [], h, _ => cases h
    | [a], h, hl =>
      simp only at h
      split at h
      · split at h
        · cases h; simpa using hl
        · cases h
      · cases h
    | a :: b :: r, h, hl =>
      simp only at h
      simp only [List.length_cons] at hl
      split at h
      · split at h
        · cases h; simp only [List.length_cons]; omega
        · cases h
      · split at h
        · split at h
          · cases h; simp only [List.length_cons]; omega
          · cases h
        · split at h
          · cases h
          · cases h; simp only [List.length_cons]; omega
/-- a segment of entries -/
def seg (es : Nat → EN) : Nat → Nat → List EN
  | 0, _ => []
  | d + 1, k => es k :: seg es d (k + 1)
section
variable {G : GG} {h h0 : AH} {w w0 : MS} {c t L : Nat} {v : VV}
/-- the stack in the class's memory, and in the reference's rows -/
def SC (h : AH) (L : Nat) (st : List Int64) : Prop := m_i h L 2 = nI st.length ∧ ∀ i, i < st.length → m_l h (L + 2) i = st.reverse.getD i 0
def SR (w : MS) (st : List Int64) : Prop := ∀ i, i < st.length → w.2 51 i = st.reverse.getD i 0
/-- while a rule is gone through -/
def EI (L : Nat) (h0 h' : AH) : Prop := m_t h' = m_t h0 ∧ m_r h' = m_r h0 ∧ m_n h' = m_n h0 ∧ (∀ a, a ≠ L → m_i h' a = m_i h0 a) ∧ (∀ a, a ≠ L + 2 → m_l h' a = m_l h0 a) ∧ ∀ j, j ≠ 2 → m_i h' L j = m_i h0 L j
theorem EI.rf : EI L h h := ⟨rfl, rfl, rfl, fun _ _ => rfl, fun _ _ => rfl, fun _ _ => rfl⟩
theorem EI.la {h' : AH} (hE : EI L h0 h') (hL : LaS h0 L) : LaS h' L := by
  unfold LaS at hL ⊢; rw [hE.1, hE.2.1]; exact hL
theorem rev_push (st : List Int64) (x : Int64) (i : Nat) : (x :: st).reverse.getD i 0 = if i < st.length then st.reverse.getD i 0 else if i = st.length then x else 0 := by
  rw [List.reverse_cons, List.getD_eq_getElem?_getD, List.getElem?_append, List.length_reverse]
  by_cases h : i < st.length
  · rw [if_pos h, if_pos h, List.getD_eq_getElem?_getD]
  · rw [if_neg h, if_neg h]
    by_cases h2 : i = st.length
    · rw [if_pos h2, h2, Nat.sub_self]; rfl
    · rw [if_neg h2]
      obtain ⟨k, hk⟩ : ∃ k, i - st.length = k + 1 := ⟨i - st.length - 1, by omega⟩
      rw [hk]; rfl
theorem c_push {h' : AH} (hL : LaS h0 L) (hE : EI L h0 h') {st : List Int64} (hs : SC h' L st) (hl : st.length < 64) (x : Int64) : ∃ h2, f_X2_stack G L x h' = some h2 ∧ EI L h0 h2 ∧ SC h2 L (x :: st) := by
  have hL' := hE.la hL
  refine ⟨m_si (m_sl h' (L + 2) st.length x) L 2 (nI (st.length + 1)), ?_, ⟨hE.1, hE.2.1, hE.2.2.1, fun a ha => ?_, fun a ha => ?_, fun j hj => ?_⟩, ?_, fun i hi => ?_⟩
  · unfold f_X2_stack
    rw [u_ck hL'.1, hs.1, if_neg (show ¬ (64 : Int32) ≤ nI st.length from nI_ge (b := 64) hl (by decide)), hL'.2.2.1, u_ob, u_ck (ixb_e hL'.2.2.2.2.1 hl (by decide)), u_nn, u_nn, nI_clamp (by omega), m_i_sl, hs.1, nI_1]
  · rw [m_i_sb ha, m_i_sl]; exact hE.2.2.2.1 a ha
  · rw [m_l_si]; funext i; rw [m_l_sl', if_neg (fun q => ha q.1), hE.2.2.2.2.1 a ha]
  · rw [m_i_sj hj, m_i_sl]; exact hE.2.2.2.2.2 j hj
  · rw [m_i_ss]; rfl
  · rw [m_l_si, m_l_sl', rev_push]
    simp only [List.length_cons] at hi
    by_cases h1 : i = st.length
    · rw [if_pos ⟨rfl, h1⟩, if_neg (by omega), if_pos h1]
    · rw [if_neg (fun q => h1 q.2), if_pos (by omega)]; exact hs.2 i (by omega)
theorem c_pop {h' : AH} (hL : LaS h0 L) (hE : EI L h0 h') {st : List Int64} {x : Int64} (hs : SC h' L (x :: st)) (hl : st.length < 64) : ∃ h2, f_X2_drop G L h' = some (x, h2) ∧ EI L h0 h2 ∧ SC h2 L st := by
  have hL' := hE.la hL
  have h1 : m_i h' L 2 = nI (st.length + 1) := hs.1
  refine ⟨m_si h' L 2 (nI st.length), ?_, ⟨hE.1, hE.2.1, hE.2.2.1, fun a ha => ?_, fun a ha => ?_, fun j hj => ?_⟩, ?_, fun i hi => ?_⟩
  · unfold f_X2_drop
    rw [u_ck hL'.1, h1, if_pos (show (0 : Int32) < nI (st.length + 1) from nI_lt (a := 0) (by omega) (by omega)), u_nn, nI_pred, m_r_si, hL'.2.2.1, u_ob, m_i_ss, ixb_si, u_ck (ixb_e hL'.2.2.2.2.1 hl (by decide)), nI_clamp (by omega), m_l_si, hs.2 st.length (by simp), rev_push, if_neg (by omega), if_pos rfl]
  · rw [m_i_sb ha]; exact hE.2.2.2.1 a ha
  · rw [m_l_si]; exact hE.2.2.2.2.1 a ha
  · rw [m_i_sj hj]; exact hE.2.2.2.2.2 j hj
  · rw [m_i_ss]
  · rw [m_l_si, hs.2 i (by simp; omega), rev_push, if_pos hi]
theorem c_joined (k : Int32) (hk : isOp k) (a b : Int64) : f_X2_joined G a (-(encI (k, 0))) b h = some (bothI k a b, h) := by
  unfold f_X2_joined
  have hb0 : ∀ x : Int64, (if (lg_cmp b (0 : Int64)) = 0 then some ((0 : Int64), h) else ck (¬ b = 0) (some (x, h))) = some (if b = 0 then 0 else x, h) := fun x => by
    simp only [lg_cmp_eq]
    by_cases hb : b = 0
    · rw [if_pos hb, if_pos hb]
    · rw [if_neg hb, if_neg hb, u_ck hb]
  rcases hk with rfl | rfl | rfl | rfl | rfl | rfl | rfl | rfl | rfl | rfl | rfl | rfl
  · rfl
  · rfl
  · show (if 0 ≤ lg_cmp a b then some ((0 : Int64), h) else some (1, h)) = some (if a < b then 1 else 0, h)
    simp only [lg_cmp_ge]
    by_cases h1 : a < b
    · rw [if_pos h1, if_neg (by rw [Int64.lt_iff_toInt_lt] at h1; rw [Int64.le_iff_toInt_le]; omega)]
    · rw [if_neg h1, if_pos (by rw [Int64.lt_iff_toInt_lt] at h1; rw [Int64.le_iff_toInt_le]; omega)]
  · show (if 0 < lg_cmp a b then some ((0 : Int64), h) else some (1, h)) = some (if a ≤ b then 1 else 0, h)
    simp only [lg_cmp_gt]
    by_cases h1 : a ≤ b
    · rw [if_pos h1, if_neg (by rw [Int64.le_iff_toInt_le] at h1; rw [Int64.lt_iff_toInt_lt]; omega)]
    · rw [if_neg h1, if_pos (by rw [Int64.le_iff_toInt_le] at h1; rw [Int64.lt_iff_toInt_lt]; omega)]
  · show (if lg_cmp a b = 0 then some ((1 : Int64), h) else some (0, h)) = some (if a = b then 1 else 0, h)
    simp only [lg_cmp_eq]
    by_cases h1 : a = b <;> simp [h1]
  · show (if lg_cmp a b < 0 then some ((0 : Int64), h) else some (1, h)) = some (if b ≤ a then 1 else 0, h)
    simp only [lg_cmp_lt]
    by_cases h1 : b ≤ a
    · rw [if_pos h1, if_neg (by rw [Int64.le_iff_toInt_le] at h1; rw [Int64.lt_iff_toInt_lt]; omega)]
    · rw [if_neg h1, if_pos (by rw [Int64.le_iff_toInt_le] at h1; rw [Int64.lt_iff_toInt_lt]; omega)]
  · show (if lg_cmp a b ≤ 0 then some ((0 : Int64), h) else some (1, h)) = some (if b < a then 1 else 0, h)
    simp only [lg_cmp_le]
    by_cases h1 : b < a
    · rw [if_pos h1, if_neg (by rw [Int64.lt_iff_toInt_lt] at h1; rw [Int64.le_iff_toInt_le]; omega)]
    · rw [if_neg h1, if_pos (by rw [Int64.lt_iff_toInt_lt] at h1; rw [Int64.le_iff_toInt_le]; omega)]
  · rfl
  · rfl
  · rfl
  · exact hb0 (a / b)
  · exact hb0 (a - a / b * b)
theorem p_both (k : Int32) (hk : isOp k) (a b : Int64) : p_X12_both G k a b w = some (bothI k a b, w) := by
  unfold p_X12_both p_X12_truth
  have hb0 : ∀ x : Int64, (if (lg_cmp b (0 : Int64)) = 0 then some ((0 : Int64), w) else ck (¬ b = 0) (some (x, w))) = some (if b = 0 then 0 else x, w) := fun x => by
    simp only [lg_cmp_eq]
    by_cases hb : b = 0
    · rw [if_pos hb, if_pos hb]
    · rw [if_neg hb, if_neg hb, u_ck hb]
  rcases hk with rfl | rfl | rfl | rfl | rfl | rfl | rfl | rfl | rfl | rfl | rfl | rfl
  · rfl
  · rfl
  · show (if 0 ≤ lg_cmp a b then some ((0 : Int64), w) else some (1, w)) = some (if a < b then 1 else 0, w)
    simp only [lg_cmp_ge]
    by_cases h1 : a < b
    · rw [if_pos h1, if_neg (by rw [Int64.lt_iff_toInt_lt] at h1; rw [Int64.le_iff_toInt_le]; omega)]
    · rw [if_neg h1, if_pos (by rw [Int64.lt_iff_toInt_lt] at h1; rw [Int64.le_iff_toInt_le]; omega)]
  · show (if 0 < lg_cmp a b then some ((0 : Int64), w) else some (1, w)) = some (if a ≤ b then 1 else 0, w)
    simp only [lg_cmp_gt]
    by_cases h1 : a ≤ b
    · rw [if_pos h1, if_neg (by rw [Int64.le_iff_toInt_le] at h1; rw [Int64.lt_iff_toInt_lt]; omega)]
    · rw [if_neg h1, if_pos (by rw [Int64.le_iff_toInt_le] at h1; rw [Int64.lt_iff_toInt_lt]; omega)]
  · show (if lg_cmp a b = 0 then some ((1 : Int64), w) else some (0, w)) = some (if a = b then 1 else 0, w)
    simp only [lg_cmp_eq]
    by_cases h1 : a = b <;> simp [h1]
  · show (if lg_cmp a b < 0 then some ((0 : Int64), w) else some (1, w)) = some (if b ≤ a then 1 else 0, w)
    simp only [lg_cmp_lt]
    by_cases h1 : b ≤ a
    · rw [if_pos h1, if_neg (by rw [Int64.le_iff_toInt_le] at h1; rw [Int64.lt_iff_toInt_lt]; omega)]
    · rw [if_neg h1, if_pos (by rw [Int64.le_iff_toInt_le] at h1; rw [Int64.lt_iff_toInt_lt]; omega)]
  · show (if lg_cmp a b ≤ 0 then some ((0 : Int64), w) else some (1, w)) = some (if b < a then 1 else 0, w)
    simp only [lg_cmp_le]
    by_cases h1 : b < a
    · rw [if_pos h1, if_neg (by rw [Int64.lt_iff_toInt_lt] at h1; rw [Int64.le_iff_toInt_le]; omega)]
    · rw [if_neg h1, if_pos (by rw [Int64.lt_iff_toInt_lt] at h1; rw [Int64.le_iff_toInt_le]; omega)]
  · rfl
  · rfl
  · rfl
  · exact hb0 (a / b)
  · exact hb0 (a - a / b * b)
end
