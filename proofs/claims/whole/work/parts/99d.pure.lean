/-! PURE 99d: the class cuts a text: its bytes, its words. -/
def wlT : List (List Nat) := [[116, 114, 97, 105, 110], [104, 111, 108, 101], [112, 101, 114, 115, 111, 110], [102, 114, 111, 110, 116], [115, 97, 121, 115], [116, 117, 110, 110, 101, 108], [99, 111, 108, 100]]
def wlR : List (List Nat) := [[104, 111, 108, 101], [119, 97, 114, 109], [109, 105, 108, 101], [116, 117, 110, 110, 101, 108], [115, 111, 111, 110], [119, 105, 110, 100, 111, 119], [109, 105, 100, 100, 108, 101], [109, 111, 115, 116], [109, 111, 114, 101], [108, 101, 115, 115], [112, 101, 111, 112, 108, 101], [99, 114, 111, 115, 115], [107, 110, 111, 98], [112, 117, 108, 108], [105, 102], [111, 114], [97, 110, 100], [110, 111, 116]]
/-- the columns of a String constant are these words -/
def WT (x : Nat) (wl : List (List Nat)) : Prop := x < 25 ∧ wl.length ≤ 20 ∧ s_len.getD x 0 = 6 * wl.length ∧ ∀ k, k < wl.length → (wl.getD k []).length ≤ 6 ∧ (∀ j, j < (wl.getD k []).length → isL ((wl.getD k []).getD j 0) = true) ∧ ∀ j, j < 6 → s_ch x (6 * k + j) = nI ((wl.getD k []).getD j 32)
theorem wt_T : WT 0 wlT := by unfold WT; decide +kernel
theorem wt_R : WT 1 wlR := by unfold WT; decide +kernel
def GI (G : GG) : Prop := ∀ i j, i < 25 → j < 25 → G.2.2.2.1 i = G.2.2.2.1 j → i = j
section
variable {G : GG} {N : Nat} {T : Nat → Nat} {wr wr' : MS} {wl : List (List Nat)} {x i k : Nat}
theorem sx_ok (hG : GI G) (hx : x < 25) : sx G (G.2.2.2.1 x) = some x := by
  unfold sx
  cases h : (List.range 25).find? (fun k => G.2.2.2.1 k == G.2.2.2.1 x) with
  | none =>
    have := List.find?_eq_none.mp h x (List.mem_range.mpr hx)
    simp at this
  | some y =>
    have h1 := List.find?_some h
    have h2 := List.mem_range.mp (List.mem_of_find?_eq_some h)
    have : G.2.2.2.1 y = G.2.2.2.1 x := by simpa using h1
    rw [hG y x h2 hx this]
theorem q_len (hG : GI G) (hx : x < 25) (w : MS) : p_J0_length_8abf5 G (G.2.2.2.1 x) w = some (nI (s_len.getD x 0), w) := by
  unfold p_J0_length_8abf5; rw [sx_ok hG hx, u_ob]
theorem q_char (hG : GI G) (hx : x < 25) {j : Nat} (hj : j < s_len.getD x 0) (h31 : j < 2 ^ 31) (w : MS) : p_J0_charAt_5068e G (G.2.2.2.1 x) (nI j) w = some (s_ch x j, w) := by
  unfold p_J0_charAt_5068e
  rw [sx_ok hG hx, u_ob, u_ck ⟨nI_pos h31, by rw [nI_clamp h31]; exact hj⟩, nI_clamp h31]
/-- the text in the class's rows -/
def TxC (N : Nat) (T : Nat → Nat) (wr : MS) : Prop := N ≤ 400 ∧ wr.1 0 1 = nI N ∧ ∀ i, i < N → wr.1 1 i &&& 255 = nI (T i) ∧ T i < 256
def bA (N : Nat) (T : Nat → Nat) (i : Nat) : Nat := if i < N then T i else 257
def bB (N : Nat) (T : Nat → Nat) : Nat → Nat
  | 0 => 257
  | j + 1 => bA N T j
theorem bA_lt (hT : TxC N T wr) (i : Nat) : bA N T i ≤ 257 := by
  unfold bA
  by_cases z : i < N
  · rw [if_pos z]; have := (hT.2.2 i z).2; omega
  · rw [if_neg z]; exact Nat.le_refl _
theorem bB_lt (hT : TxC N T wr) : ∀ i, bB N T i ≤ 257
  | 0 => Nat.le_refl _
  | j + 1 => bA_lt hT j
theorem byte_at (hT : TxC N T wr) {i : Nat} (hi : i ≤ 500) : s_X8_byteAt G (nI i) wr = some (nI (bA N T i), wr) := by
  unfold s_X8_byteAt bA
  rw [if_neg (nI_pos (by omega)), hT.2.1]
  have hN := hT.1
  by_cases z : i < N
  · rw [if_neg (nI_ge z (by omega)), if_neg (show ¬ (400 : Int32) ≤ nI i from nI_ge (b := 400) (by omega) (by omega)), u_ck (u_ixn (by omega) (by decide)), nI_clamp (by omega), (hT.2.2 i z).1, if_pos z]
  · rw [if_pos (nI_le (by omega) (by omega)), if_neg z]; rfl
theorem byte_bf (hT : TxC N T wr) : ∀ {i : Nat}, i ≤ 500 → s_X8_byteAt G (nI i - 1) wr = some (nI (bB N T i), wr)
  | 0, _ => by unfold s_X8_byteAt; rw [if_pos (by decide)]; rfl
  | j + 1, hj => by rw [nI_pred]; exact byte_at hT (by omega)
theorem q_isD {c : Nat} (hc : c ≤ 300) : s_X8_isDigit G (nI c) wr = some (if isD c then 1 else 0, wr) := by
  unfold s_X8_isDigit isD
  by_cases a : c < 48
  · rw [if_pos (show nI c < (48 : Int32) from nI_lt (b := 48) a (by omega)), decide_eq_false (fun q => by omega)]; rfl
  · rw [if_neg (show ¬ nI c < (48 : Int32) from nI_nlt (b := 48) (by omega) (by omega))]
    by_cases b : 57 < c
    · rw [if_pos (show (57 : Int32) < nI c from nI_lt (a := 57) b (by omega)), decide_eq_false (fun q => by omega)]; rfl
    · rw [if_neg (show ¬ (57 : Int32) < nI c from nI_nlt (a := 57) (by omega) (by omega)), decide_eq_true ⟨by omega, by omega⟩]; rfl
theorem q_isL {c : Nat} (hc : c ≤ 300) : s_X8_isLetter G (nI c) wr = some (if isL c then 1 else 0, wr) := by
  unfold s_X8_isLetter isL
  by_cases a : c < 97
  · rw [if_pos (show nI c < (97 : Int32) from nI_lt (b := 97) a (by omega)), decide_eq_false (fun q => by omega)]; rfl
  · rw [if_neg (show ¬ nI c < (97 : Int32) from nI_nlt (b := 97) (by omega) (by omega))]
    by_cases b : 122 < c
    · rw [if_pos (show (122 : Int32) < nI c from nI_lt (a := 122) b (by omega)), decide_eq_false (fun q => by omega)]; rfl
    · rw [if_neg (show ¬ (122 : Int32) < nI c from nI_nlt (a := 122) (by omega) (by omega)), decide_eq_true ⟨by omega, by omega⟩]; rfl
theorem rn_eq {p : Nat → Bool} {i e : Nat} (hie : i ≤ e) (heN : e ≤ N) (h1 : ∀ j, i ≤ j → j < e → p (T j) = true) (h2 : e < N → p (T e) = false) : rn p T i (N - i) = e - i := by
  have a := rn_le p T i (N - i)
  rcases Nat.lt_trichotomy (rn p T i (N - i)) (e - i) with z | z | z
  · have := rn_end p T i (N - i) (by omega)
    rw [h1 _ (by omega) (by omega)] at this; cases this
  · exact z
  · have := rn_in p T i (N - i) e (by omega) (by omega)
    rw [h2 (by omega)] at this; cases this
/-- a column is the word that stands from i to e, or not -/
theorem q_isColumn (hG : GI G) (hW : WT x wl) (hT : TxC N T wr) {k i e : Nat} (hk : k < wl.length) (hie : i < e) (heN : e ≤ N) (h1 : ∀ j, i ≤ j → j < e → isL (T j) = true) (h2 : e < N → isL (T e) = false) : s_X8_isColumn G (G.2.2.2.1 x) (nI (6 * k)) (nI i) (nI e) wr = some (if wd N T (wl.getD k []) i then 1 else 0, wr) := by
  have hN := hT.1
  obtain ⟨w1, w2, w3⟩ := hW.2.2.2 k hk
  have hk20 := hW.2.1
  have er := rn_eq (Nat.le_of_lt hie) heN h1 h2
  generalize hSe : wl.getD k [] = S at *
  unfold s_X8_isColumn
  rw [pk_sub (Nat.le_of_lt hie)]
  by_cases z : e - i ≤ 6
  · rw [if_pos (show nI (e - i) ≤ (6 : Int32) from nI_le (b := 6) z (by omega))]
    have lt : ∀ j, (if j < e - i then T (i + j) else 32) < 256 := fun j => by
      by_cases y : j < e - i
      · rw [if_pos y]; exact (hT.2.2 (i + j) (by omega)).2
      · rw [if_neg y]; decide
    have pd : ∀ j, S.getD j 32 < 256 := fun j => by
      by_cases y : j < S.length
      · have := L32 (w2 j y)
        have e : S.getD j 32 = S.getD j 0 := by simp [List.getD, y]
        omega
      · have : S.getD j 32 = 32 := by simp [List.getD, y]
        omega
    have step : ∀ self j, j < 6 → S_X8_isColumn_14 G (G.2.2.2.1 x) (nI (6 * k)) (nI i) (nI e) self (nI j) wr = if S.getD j 32 = (if j < e - i then T (i + j) else 32) then self (nI j + 1) wr else some (0, wr) := fun self j hj => by
      have ch : p_J0_charAt_5068e G (G.2.2.2.1 x) (nI (6 * k) + nI j) wr = some (nI (S.getD j 32), wr) := by
        rw [nI_add, q_char hG hW.1 (by rw [hW.2.2.1]; omega) (by omega), w3 j hj]
      have eqi : ∀ a b : Nat, a < 256 → b < 256 → (nI a = nI b ↔ a = b) := fun a b ha hb => nI_eq (by omega) (by omega)
      rw [S_X8_isColumn_14, if_neg (show ¬ (6 : Int32) ≤ nI j from nI_ge (b := 6) (by omega) (by omega)), u_nn, nI_add i j]
      by_cases y : j < e - i
      · have l1 := lt j
        rw [if_pos y] at l1
        rw [if_neg (nI_ge (show i + j < e by omega) (by omega)), byte_at hT (by omega), u_cw]
        unfold bA
        rw [if_pos (show i + j < N by omega), if_pos y]
        dsimp only
        rw [ch, u_cw]
        by_cases u : S.getD j 32 = T (i + j)
        · rw [if_pos u, if_pos (by rw [u]), u_nn]
        · rw [if_neg u, if_neg (fun q => u ((eqi _ _ (pd j) l1).mp q))]
      · rw [if_pos (nI_le (by omega) (by omega)), if_neg y]
        dsimp only
        rw [ch, u_cw]
        by_cases u : S.getD j 32 = 32
        · rw [if_pos u, if_pos (by rw [u]; rfl), u_nn]
        · rw [if_neg u, if_neg (show ¬ nI (S.getD j 32) = (32 : Int32) from fun q => u ((eqi _ 32 (pd j) (by decide)).mp q))]
    have hl := lw1_ff (F := S_X8_isColumn_14 G (G.2.2.2.1 x) (nI (6 * k)) (nI i) (nI e)) (h := wr) (N := 6) (fun j => decide (¬ S.getD j 32 = (if j < e - i then T (i + j) else 32))) (fun _ => some (0, wr)) (some (1, wr))
      (fun self => by rw [S_X8_isColumn_14, if_pos (show (6 : Int32) ≤ nI 6 from nI_le (a := 6) (by omega) (by omega))])
      (fun self j hj hp => by rw [step self j hj, if_neg (of_decide_eq_true hp)])
      (fun self j hj hp => by rw [step self j hj, if_pos (Classical.byContradiction fun q => of_decide_eq_false hp q)])
      (d := 6) (n := bN) (k := 0) rfl (bN_gt (by decide))
    have hl' : lw1 (S_X8_isColumn_14 G (G.2.2.2.1 x) (nI (6 * k)) (nI i) (nI e)) bN (0 : Int32) wr = _ := hl
    rw [hl']
    have gd : ∀ j, j < S.length → S.getD j 32 = S.getD j 0 := fun j y => by simp [List.getD, y]
    have gd2 : ∀ j, S.length ≤ j → S.getD j 32 = 32 := fun j y => by simp [List.getD, Nat.not_lt.mpr y]
    cases hff : ff (fun j => decide (¬ S.getD j 32 = (if j < e - i then T (i + j) else 32))) 6 0 with
    | some j =>
      obtain ⟨-, j1, j2, -⟩ := ff_some hff
      have j2 := of_decide_eq_true j2
      have : wd N T S i = false := decide_eq_false (fun q => by
        rw [er] at q
        by_cases y : j < e - i
        · rw [if_pos y, gd j (by omega), q.2 j (by omega)] at j2; exact j2 rfl
        · rw [if_neg y, gd2 j (by omega)] at j2; exact j2 rfl)
      rw [this]; rfl
    | none =>
      have hall : ∀ j, j < 6 → S.getD j 32 = (if j < e - i then T (i + j) else 32) := fun j hj => Classical.byContradiction fun q => of_decide_eq_false (ff_none hff j (Nat.zero_le _) (by omega)) q
      have hlen : e - i = S.length := by
        rcases Nat.lt_trichotomy (e - i) S.length with y | y | y
        · have := hall (e - i) (by omega)
          rw [if_neg (Nat.lt_irrefl _), gd _ y] at this
          have h3 := L32 (w2 _ y)
          omega
        · exact y
        · have := hall S.length (by omega)
          rw [if_pos y, gd2 _ (Nat.le_refl _)] at this
          have h3 := L32 (h1 (i + S.length) (by omega) (by omega))
          omega
      have : wd N T S i = true := decide_eq_true ⟨by rw [er]; exact hlen, fun j hj => by
        have := hall j (by omega)
        rw [if_pos (by omega), gd j hj] at this
        exact this.symm⟩
      rw [this]; rfl
  · rw [if_neg (show ¬ nI (e - i) ≤ (6 : Int32) from nI_ge (a := 6) (by omega) (by omega))]
    have : wd N T S i = false := decide_eq_false (fun q => by rw [er] at q; omega)
    rw [this]; rfl
theorem q_wordIn (hG : GI G) (hW : WT x wl) (hT : TxC N T wr) {i e : Nat} (hie : i < e) (heN : e ≤ N) (h1 : ∀ j, i ≤ j → j < e → isL (T j) = true) (h2 : e < N → isL (T e) = false) : s_X8_wordIn G (G.2.2.2.1 x) (nI i) (nI e) wr = some (wcd wl N T i, wr) := by
  have hk20 := hW.2.1
  have key : ∀ (K : Int32 → MS → Option (Int32 × MS)) (d k n : Nat), k + d = wl.length → d < n → lw1 (S_X8_wordIn_3 G (G.2.2.2.1 x) (nI i) (nI e) K) n (nI (6 * k)) wr = match ff (fun k => wd N T (wl.getD k []) i) d k with | some j => K (nI (6 * j)) wr | none => some (258, wr) := by
    intro K d
    induction d with
    | zero =>
      intro k n e1 hn
      obtain ⟨n, rfl⟩ : ∃ m, n = m + 1 := ⟨n - 1, by omega⟩
      show S_X8_wordIn_3 G (G.2.2.2.1 x) (nI i) (nI e) K _ _ _ = _
      have e6 : nI (6 * k) + (6 : Int32) = nI (6 * k + 6) := nI_add _ 6
      rw [S_X8_wordIn_3, q_len hG hW.1, u_cw, e6, hW.2.2.1, if_pos (nI_lt (by omega) (by omega))]; rfl
    | succ d ih =>
      intro k n e1 hn
      obtain ⟨n, rfl⟩ : ∃ m, n = m + 1 := ⟨n - 1, by omega⟩
      show S_X8_wordIn_3 G (G.2.2.2.1 x) (nI i) (nI e) K _ _ _ = match (if wd N T (wl.getD k []) i = true then some k else ff (fun k => wd N T (wl.getD k []) i) d (k + 1)) with | some j => K (nI (6 * j)) wr | none => some (258, wr)
      have e6 : nI (6 * k) + (6 : Int32) = nI (6 * k + 6) := nI_add _ 6
      rw [S_X8_wordIn_3, q_len hG hW.1, u_cw, e6, hW.2.2.1, if_neg (nI_nlt (by omega) (by omega)), q_isColumn hG hW hT (by omega) hie heN h1 h2, u_cw]
      by_cases z : wd N T (wl.getD k []) i = true
      · rw [if_pos z, if_neg n10, if_pos z]
      · rw [if_neg z, if_pos rfl, if_neg z, u_nn, show 6 * k + 6 = 6 * (k + 1) by omega]
        exact ih (k + 1) n (by omega) (by omega)
  unfold s_X8_wordIn wcd
  have k0 := key (fun (v4_27 : Int32) (h_27 : MS) => (some ((300 : Int32) + (v4_27 / (6 : Int32)), h_27))) wl.length 0 bN (Nat.zero_add _) (bN_gt (by omega))
  refine Eq.trans k0 ?_
  cases hff : ff (fun k => wd N T (wl.getD k []) i) wl.length 0 with
  | none => rfl
  | some j =>
    have := ff_some hff
    have e6 : nI (6 * j) / (6 : Int32) = nI j := by
      rw [show (6 : Int32) = nI 6 from rfl, pk_div (by omega) (by decide) (by decide), Nat.mul_div_cancel_left _ (by decide)]
    have e3 : (300 : Int32) + nI j = nI (300 + j) := nI_add 300 j
    show some ((300 : Int32) + nI (6 * j) / (6 : Int32), wr) = _
    rw [e6, e3]
end
