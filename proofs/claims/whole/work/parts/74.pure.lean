/-! PURE 74: rows kept and laid back by the reference. -/
def pickS (m : Nat) : List (Nat × Nat × Nat) → Nat → VV → Nat → Int32
  | [], _, v, j => v m j
  | (r, s, l) :: rest, b, v, j => if b ≤ j ∧ j < b + l then v r (s + (j - b)) else pickS m rest (b + l) v j
def lodS (m : Nat) : List (Nat × Nat × Nat) → Nat → VV → Nat → Nat → Int32
  | [], _, v, k, j => v k j
  | (r, s, l) :: rest, b, v, k, j => if k = r ∧ s ≤ j ∧ j < s + l then v m (b + (j - s)) else lodS m rest (b + l) v k j
def lenS : List (Nat × Nat × Nat) → Nat
  | [] => 0
  | (_, _, l) :: rest => l + lenS rest
/-- only row m and one cell of row 0 change -/
def Sto (m a : Nat) (rs : List (Nat × Nat × Nat)) (b : Nat) (w w' : MS) : Prop := w'.1 0 a = nI (b + lenS rs) ∧ (∀ k, k ≠ a → w'.1 0 k = w.1 0 k) ∧ (∀ k, k ≠ 0 → k ≠ m → w'.1 k = w.1 k) ∧ w'.2 = w.2 ∧ ∀ j, w'.1 m j = pickS m rs b w.1 j
def Lod (m a : Nat) (rs : List (Nat × Nat × Nat)) (b : Nat) (w w' : MS) : Prop := w'.1 0 a = nI (b + lenS rs) ∧ (∀ k, k ≠ a → w'.1 0 k = w.1 0 k) ∧ w'.2 = w.2 ∧ ∀ k, k ≠ 0 → ∀ j, w'.1 k j = lodS m rs b w.1 k j
theorem pickS_c (m r s l : Nat) (rest : List (Nat × Nat × Nat)) (b : Nat) (v : VV) (j : Nat) : pickS m ((r, s, l) :: rest) b v j = if b ≤ j ∧ j < b + l then v r (s + (j - b)) else pickS m rest (b + l) v j := rfl
theorem lodS_c (m r s l : Nat) (rest : List (Nat × Nat × Nat)) (b : Nat) (v : VV) (k j : Nat) : lodS m ((r, s, l) :: rest) b v k j = if k = r ∧ s ≤ j ∧ j < s + l then v m (b + (j - s)) else lodS m rest (b + l) v k j := rfl
theorem pickS_cg {m : Nat} {v v' : VV} : ∀ {rs : List (Nat × Nat × Nat)} {b j : Nat}, (∀ q ∈ rs, v' q.1 = v q.1) → v' m j = v m j → pickS m rs b v' j = pickS m rs b v j
  | [], _, _, _, h => h
  | (r, s, l) :: rest, b, j, h1, h2 => by
    unfold pickS
    rw [h1 (r, s, l) (by simp), pickS_cg (fun q hq => h1 q (by simp [hq])) h2]
theorem Sto.cons {m a : Nat} {r s l : Nat} {rest : List (Nat × Nat × Nat)} {b : Nat} {w w1 w2 : MS} (h1 : Sto m a [(r, s, l)] b w w1) (h2 : Sto m a rest (b + l) w1 w2) (hr : ∀ q ∈ (r, s, l) :: rest, q.1 ≠ 0 ∧ q.1 ≠ m) (hm : m ≠ 0) : Sto m a ((r, s, l) :: rest) b w w2 := by
  obtain ⟨a1, a2, a3, a4, a5⟩ := h1
  obtain ⟨b1, b2, b3, b4, b5⟩ := h2
  refine ⟨?_, fun k hk => (b2 k hk).trans (a2 k hk), fun k h1 h2 => (b3 k h1 h2).trans (a3 k h1 h2), b4.trans a4, fun j => ?_⟩
  · rw [b1]; simp only [lenS, Nat.add_assoc]
  · rw [b5, pickS_c]
    by_cases hj : b ≤ j ∧ j < b + l
    · rw [if_pos hj]
      -- later segments lie behind
      have : ∀ (rs : List (Nat × Nat × Nat)) (b2 : Nat), b + l ≤ b2 → pickS m rs b2 w1.1 j = w1.1 m j := by
        intro rs
        induction rs with
        | nil => intro b2 _; rfl
        | cons q rs ih =>
          intro b2 hb
          obtain ⟨r', s', l'⟩ := q
          unfold pickS
          rw [if_neg (by omega)]
          exact ih (b2 + l') (by omega)
      rw [this rest (b + l) (Nat.le_refl _), a5]
      unfold pickS
      rw [if_pos hj]
    · rw [if_neg hj]
      refine pickS_cg (fun q hq => a3 q.1 (hr q (List.mem_cons_of_mem _ hq)).1 (hr q (List.mem_cons_of_mem _ hq)).2) ?_
      rw [a5]
      unfold pickS
      rw [if_neg hj]; rfl
theorem Lod.cons {m a : Nat} {r s l : Nat} {rest : List (Nat × Nat × Nat)} {b : Nat} {w w1 w2 : MS} (h1 : Lod m a [(r, s, l)] b w w1) (h2 : Lod m a rest (b + l) w1 w2) (hr : ∀ q ∈ rest, ∀ j, s ≤ j → j < s + l → ¬ (r = q.1 ∧ q.2.1 ≤ j ∧ j < q.2.1 + q.2.2)) (hm : m ≠ r) (hm0 : m ≠ 0) : Lod m a ((r, s, l) :: rest) b w w2 := by
  obtain ⟨a1, a2, a3, a4⟩ := h1
  obtain ⟨b1, b2, b3, b4⟩ := h2
  refine ⟨?_, fun k hk => (b2 k hk).trans (a2 k hk), b3.trans a3, fun k hk j => ?_⟩
  · rw [b1]; simp only [lenS, Nat.add_assoc]
  · rw [b4 k hk]
    have keep : ∀ (rs : List (Nat × Nat × Nat)) (b2 : Nat), (∀ q ∈ rs, ∀ j, s ≤ j → j < s + l → ¬ (r = q.1 ∧ q.2.1 ≤ j ∧ j < q.2.1 + q.2.2)) → m ≠ 0 → lodS m rs b2 w1.1 k j = if k = r ∧ s ≤ j ∧ j < s + l then w.1 m (b + (j - s)) else lodS m rs b2 w.1 k j := by
      intro rs
      induction rs with
      | nil =>
        intro b2 _ _
        show w1.1 k j = _
        rw [a4 k hk]; rfl
      | cons q rs ih =>
        intro b2 hq hm0
        obtain ⟨r', s', l'⟩ := q
        have hne := hq (r', s', l') (by simp) j
        unfold lodS
        by_cases hc : k = r' ∧ s' ≤ j ∧ j < s' + l'
        · rw [if_pos hc, if_neg (by rintro ⟨e, e1, e2⟩; exact hne e1 e2 ⟨e.symm.trans hc.1, hc.2⟩), if_pos hc, a4 m hm0]
          unfold lodS
          rw [if_neg (fun q => hm q.1)]; rfl
        · rw [if_neg hc, if_neg hc]
          exact ih (b2 + l') (fun q hq' => hq q (by simp [hq'])) hm0
    rw [keep rest (b + l) hr hm0]; rfl
section
variable {G : GG}
theorem carry_store_at {r : Nat} (hr : mok r = true) (h0 : r ≠ 0) (h81 : r ≠ 81) (hl : mln r ≤ 2000) : ∀ (d i n b : Nat) (w : MS), i + d = mln r → d < n → b + d ≤ 6250 → w.1 0 83 = nI b → w.1 0 84 = 0 → ∃ w', lw1 (P_X12_carryRow_2 G r) n (nI i) w = some w' ∧ Sto 81 83 [(r, i, d)] b w w'
  | 0, i, n + 1, b, w, e, _, _, hb, _ => by
    refine ⟨w, ?_, hb, fun _ _ => rfl, fun _ _ _ => rfl, rfl, fun j => ?_⟩
    · show P_X12_carryRow_2 G r _ _ _ = _
      rw [P_X12_carryRow_2, u_ck hr, if_pos (nI_le (by omega) (by omega))]
    · unfold pickS; rw [if_neg (by omega)]; rfl
  | d + 1, i, n + 1, b, w, e, hn, hb2, hb, hg => by
    let w1 := w_si w 81 b (w.1 r i)
    let w2 := w_si w1 0 83 (nI (b + 1))
    have e83 : w1.1 0 83 = nI b := by show (w_si w 81 b (w.1 r i)).1 0 83 = _; rw [w_si_r (by decide)]; exact hb
    obtain ⟨w', f1, f2, f3, f4, f5, f6⟩ := carry_store_at hr h0 h81 hl d (i + 1) n (b + 1) w2 (by omega) (by omega) (by omega) (w_si_s _ _ _ _) (by show (w_si w1 0 83 _).1 0 84 = 0; rw [w_si_j (by decide)]; show (w_si w 81 b _).1 0 84 = 0; rw [w_si_r (by decide)]; exact hg)
    refine ⟨w', ?_, ?_, fun k hk => ?_, fun k h1 h2 => ?_, f5, fun j => ?_⟩
    · show P_X12_carryRow_2 G r _ _ _ = _
      rw [P_X12_carryRow_2, u_ck hr, if_neg (nI_ge (by omega) (by omega)), u_nn, if_pos hg, u_ck hr, u_ck (u_ixn (by omega) (by omega)), hb, u_ck (u_ixn (by omega) (by decide)), u_nn, nI_clamp (n := b) (by omega), nI_clamp (n := i) (by omega)]
      dsimp only
      rw [u_nn, u_nn, show (w_si w 81 b (w.1 r i)).1 0 83 = nI b from e83, nI_1, nI_1]
      exact f1
    · rw [f2]; simp only [lenS]; congr 1; omega
    · rw [f3 k hk]
      show (w_si (w_si w 81 b (w.1 r i)) 0 83 _).1 0 k = _
      rw [w_si_j hk, w_si_r (by decide)]
    · rw [f4 k h1 h2]
      show (w_si (w_si w 81 b (w.1 r i)) 0 83 _).1 k = _
      rw [w_si_r h1, w_si_r h2]
    · rw [f6]
      unfold pickS
      by_cases c1 : b + 1 ≤ j ∧ j < b + 1 + d
      · rw [if_pos c1, if_pos (by omega)]
        show (w_si (w_si w 81 b (w.1 r i)) 0 83 _).1 r _ = _
        rw [w_si_r h0, w_si_r h81, show i + 1 + (j - (b + 1)) = i + (j - b) by omega]
      · rw [if_neg c1]
        show (w_si (w_si w 81 b (w.1 r i)) 0 83 _).1 81 j = _
        rw [w_si_r (by decide)]
        by_cases c2 : j = b
        · subst c2; rw [if_pos (by omega), w_si_s, Nat.sub_self]; rfl
        · rw [if_neg (by omega), w_si_j c2]; rfl
theorem carry_load_at {r : Nat} (hr : mok r = true) (h0 : r ≠ 0) (h81 : r ≠ 81) (hl : mln r ≤ 2000) : ∀ (d i n b : Nat) (w : MS), i + d = mln r → d < n → b + d ≤ 6250 → w.1 0 83 = nI b → w.1 0 84 = 1 → ∃ w', lw1 (P_X12_carryRow_2 G r) n (nI i) w = some w' ∧ Lod 81 83 [(r, i, d)] b w w'
  | 0, i, n + 1, b, w, e, _, _, hb, _ => by
    refine ⟨w, ?_, hb, fun _ _ => rfl, rfl, fun k hk j => ?_⟩
    · show P_X12_carryRow_2 G r _ _ _ = _
      rw [P_X12_carryRow_2, u_ck hr, if_pos (nI_le (by omega) (by omega))]
    · unfold lodS; rw [if_neg (by omega)]; rfl
  | d + 1, i, n + 1, b, w, e, hn, hb2, hb, hg => by
    let w1 := w_si w r i (w.1 81 b)
    let w2 := w_si w1 0 83 (nI (b + 1))
    have e83 : w1.1 0 83 = nI b := by show (w_si w r i _).1 0 83 = _; rw [w_si_r (Ne.symm h0)]; exact hb
    obtain ⟨w', f1, f2, f3, f4, f5⟩ := carry_load_at hr h0 h81 hl d (i + 1) n (b + 1) w2 (by omega) (by omega) (by omega) (w_si_s _ _ _ _) (by show (w_si w1 0 83 _).1 0 84 = 1; rw [w_si_j (by decide)]; show (w_si w r i _).1 0 84 = 1; rw [w_si_r (Ne.symm h0)]; exact hg)
    refine ⟨w', ?_, ?_, fun k hk => ?_, f4, fun k hk j => ?_⟩
    · show P_X12_carryRow_2 G r _ _ _ = _
      rw [P_X12_carryRow_2, u_ck hr, if_neg (nI_ge (by omega) (by omega)), u_nn, if_neg (by rw [hg]; decide), hb, u_ck (u_ixn (by omega) (by decide)), u_ck hr, u_ck (u_ixn (by omega) (by omega)), u_nn, nI_clamp (n := b) (by omega), nI_clamp (n := i) (by omega)]
      dsimp only
      rw [u_nn, u_nn, show (w_si w r i (w.1 81 b)).1 0 83 = nI b from e83, nI_1, nI_1]
      exact f1
    · rw [f2]; simp only [lenS]; congr 1; omega
    · rw [f3 k hk]
      show (w_si (w_si w r i _) 0 83 _).1 0 k = _
      rw [w_si_j hk, w_si_r (Ne.symm h0)]
    · rw [f5 k hk]
      unfold lodS
      by_cases c1 : k = r ∧ i + 1 ≤ j ∧ j < i + 1 + d
      · rw [if_pos c1, if_pos (by omega)]
        show (w_si (w_si w r i _) 0 83 _).1 81 _ = _
        rw [w_si_r (by decide), w_si_r (Ne.symm h81), show b + 1 + (j - (i + 1)) = b + (j - i) by omega]
      · rw [if_neg c1]
        show (w_si (w_si w r i _) 0 83 _).1 k j = _
        rw [w_si_r hk]
        by_cases c2 : k = r ∧ j = i
        · rw [if_pos (by omega), c2.1, c2.2, w_si_s, Nat.sub_self]; rfl
        · rw [if_neg (by omega), w_si_e, if_neg c2]; rfl
def runL (G : GG) : List Nat → MS → Option MS
  | [], w => some w
  | r :: rs, w => ob (p_X12_carryRow G r w) (runL G rs)
def sgs (rs : List Nat) : List (Nat × Nat × Nat) := rs.map (fun r => (r, 0, mln r))
def okR (r : Nat) : Bool := mok r && decide (r ≠ 0) && decide (r ≠ 81) && decide (mln r ≤ 2000)
theorem okR_e {r : Nat} (h : okR r = true) : mok r = true ∧ r ≠ 0 ∧ r ≠ 81 ∧ mln r ≤ 2000 := by
  unfold okR at h; simp only [Bool.and_eq_true, decide_eq_true_eq] at h; exact ⟨h.1.1.1, h.1.1.2, h.1.2, h.2⟩
theorem run_store : ∀ (rs : List Nat) (b : Nat) (w : MS), (∀ r ∈ rs, okR r = true) → b + lenS (sgs rs) ≤ 6250 → w.1 0 83 = nI b → w.1 0 84 = 0 → ∃ w', runL G rs w = some w' ∧ Sto 81 83 (sgs rs) b w w'
  | [], b, w, _, _, hb, _ => ⟨w, rfl, hb, fun _ _ => rfl, fun _ _ _ => rfl, rfl, fun _ => rfl⟩
  | r :: rs, b, w, hok, hl, hb, hg => by
    obtain ⟨o1, o2, o3, o4⟩ := okR_e (hok r (by simp))
    have hl2 : b + (mln r + lenS (sgs rs)) ≤ 6250 := hl
    obtain ⟨w1, f1, f2⟩ := carry_store_at (G := G) o1 o2 o3 o4 (mln r) 0 bN b w (Nat.zero_add _) (bN_gt (by omega)) (by omega) hb hg
    obtain ⟨w2, g1, g2⟩ := run_store rs (b + mln r) w1 (fun q hq => hok q (by simp [hq])) (by omega) (by rw [f2.1]; simp [lenS]) (by rw [f2.2.1 84 (by decide)]; exact hg)
    refine ⟨w2, ?_, f2.cons g2 (fun q hq => ?_) (by decide)⟩
    · show ob (p_X12_carryRow G r w) _ = _
      unfold p_X12_carryRow
      rw [nI_0] at f1
      rw [f1]; exact g1
    · simp only [List.mem_cons] at hq
      rcases hq with rfl | hq
      · exact ⟨o2, o3⟩
      · simp only [sgs, List.mem_map] at hq
        obtain ⟨r', hr', rfl⟩ := hq
        have := okR_e (hok r' (by simp [hr']))
        exact ⟨this.2.1, this.2.2.1⟩
theorem run_load : ∀ (rs : List Nat) (b : Nat) (w : MS), (∀ r ∈ rs, okR r = true) → rs.Nodup → b + lenS (sgs rs) ≤ 6250 → w.1 0 83 = nI b → w.1 0 84 = 1 → ∃ w', runL G rs w = some w' ∧ Lod 81 83 (sgs rs) b w w'
  | [], b, w, _, _, _, hb, _ => ⟨w, rfl, hb, fun _ _ => rfl, rfl, fun _ _ _ => rfl⟩
  | r :: rs, b, w, hok, hnd, hl, hb, hg => by
    obtain ⟨o1, o2, o3, o4⟩ := okR_e (hok r (by simp))
    have hl2 : b + (mln r + lenS (sgs rs)) ≤ 6250 := hl
    obtain ⟨w1, f1, f2⟩ := carry_load_at (G := G) o1 o2 o3 o4 (mln r) 0 bN b w (Nat.zero_add _) (bN_gt (by omega)) (by omega) hb hg
    rw [List.nodup_cons] at hnd
    obtain ⟨w2, g1, g2⟩ := run_load rs (b + mln r) w1 (fun q hq => hok q (by simp [hq])) hnd.2 (by omega) (by rw [f2.1]; simp [lenS]) (by rw [f2.2.1 84 (by decide)]; exact hg)
    refine ⟨w2, ?_, f2.cons g2 (fun q hq => ?_) (Ne.symm o3) (by decide)⟩
    · show ob (p_X12_carryRow G r w) _ = _
      unfold p_X12_carryRow
      rw [nI_0] at f1
      rw [f1]; exact g1
    · simp only [sgs, List.mem_map] at hq
      obtain ⟨r', hr', rfl⟩ := hq
      intro j _ _ e
      exact hnd.1 (by rw [show r = r' from e.1]; exact hr')
end
