/-! PURE 99yy: the start. -/
theorem S_le : ∀ e ∈ B_i A_i, e.1 < 61 := by decide
theorem S_m : ∀ k, k < 85 → mrk k = true → lkR (B_r A_r) 59 k = some (some (59 + mofs k)) ∧ lkT (B_t A_t) (59 + mofs k) = some (.inr (mty k, mln k)) := by decide +kernel
theorem S_rT : ∀ q ∈ rT, lkT (B_t A_t) (1 + q.1) = some q.2 := by decide +kernel
theorem S_rR : ∀ q ∈ rR, lkR (B_r A_r) (1 + q.1) q.2.1 = some (some (1 + q.2.2)) := by decide +kernel
theorem S_tr : ∀ q, q < 8 → lkR (B_r A_r) 13 q = some (some (19 + q)) ∧ lkT (B_t A_t) (19 + q) = some (.inl 5) := by decide +kernel
theorem S_gp : ∀ k, k < 9 → lkR (B_r A_r) 44 k = some (some (45 + k)) := by decide +kernel
theorem S_im : ∀ k, k < 4 → lkR (B_r A_r) 33 k = some none := by decide +kernel
theorem S_12 : ∀ j : Nat, j < 16 → lkI (B_i A_i) 60 j = 0 := by decide +kernel
section
variable {G : GG} {X : Nat} {h : AH}
theorem start_rel (hr : RM X 122 (B_t A_t) (B_r A_r) (B_i A_i) h) : Inv X h := by
  obtain ⟨h1, -, hT, hR, hI⟩ := hr
  have r : ∀ o k b, lkR (B_r A_r) o k = some (some b) → m_r h (X + o) k = some (X + b) := fun o k b e => hR o k _ e
  have i0 : ∀ o k y, o < 122 → lkI (B_i A_i) o k = y → m_i h (X + o) k = y := fun o k y ho e => (hI o ho k).trans e
  have w0 : ∀ j y, lkI (B_i A_i) 59 j = y → (ms_of h (X + 59)).1 0 j = y := fun j y e => i0 59 j y (by decide) e
  have wk : ∀ k, mrk k = true → ∀ j, (ms_of h (X + 59)).1 k j = lkI (B_i A_i) (59 + mofs k) j := fun k hk j => by
    have hl := mofs_lt k
    have hne : ¬ k = 0 := fun q => by rw [q] at hk; exact absurd hk (by decide)
    show (if k = 0 then m_i h (X + 59) else m_i h (X + 59 + mofs k)) j = _
    rw [if_neg hne, Nat.add_assoc]
    exact hI (59 + mofs k) (by omega) j
  have w1 : ∀ j y, lkI (B_i A_i) 60 j = y → (ms_of h (X + 59)).1 1 j = y := fun j y e => (wk 1 (by decide) j).trans e
  have wz : ∀ k, mrk k = true → 1 < mofs k → ∀ j, (ms_of h (X + 59)).1 k j = 0 := fun k hk h1 j => by
    rw [wk k hk j]
    exact lkI_no (fun e he => by have := S_le e he; omega)
  have z1 : ∀ j, j < 16 → (ms_of h (X + 59)).1 1 j = 0 := fun j hj => w1 j 0 (S_12 j hj)
  have z16 : (ms_of h (X + 59)).1 1 16 = -1 := w1 16 _ (by decide +kernel)
  have hMI : MI h (X + 59) := by
    refine ⟨hT 59 _ (by decide +kernel), fun k hk => ?_⟩
    by_cases z : k < 85
    · obtain ⟨a, b⟩ := S_m k z hk
      rw [Nat.add_assoc]
      exact ⟨r 59 k _ a, hT _ _ b⟩
    · have : mofs k = 0 := by unfold mofs; rw [List.getD_eq_getElem?_getD, List.getElem?_eq_none (by simp only [List.length_cons, List.length_nil]; omega)]; rfl
      simp [mrk, this] at hk
  have hRI : RI h (X + 1) := ⟨fun q hq => by rw [Nat.add_assoc]; exact hT _ _ (S_rT q hq), fun q hq => by rw [Nat.add_assoc, Nat.add_assoc]; exact r _ _ _ (S_rR q hq)⟩
  have hGA : GA h X := ⟨hT 0 _ (by decide +kernel), r 0 0 1 (by decide +kernel), r 0 1 6 (by decide +kernel), r 0 2 7 (by decide +kernel), r 0 3 9 (by decide +kernel), r 0 5 10 (by decide +kernel), r 0 6 33 (by decide +kernel), r 0 7 34 (by decide +kernel), r 0 8 39 (by decide +kernel), r 0 9 44 (by decide +kernel), r 0 10 54 (by decide +kernel), r 0 11 58 (by decide +kernel)⟩
  have hCa : CaS h (X + 34) := ⟨hT 34 _ (by decide +kernel), r 34 6 35 (by decide +kernel), r 34 7 36 (by decide +kernel), r 34 8 37 (by decide +kernel), r 34 9 38 (by decide +kernel), hT 35 _ (by decide +kernel), hT 36 _ (by decide +kernel), hT 37 _ (by decide +kernel), hT 38 _ (by decide +kernel)⟩
  have hGT : GT h X := ⟨hT 39 _ (by decide +kernel), r 39 0 40 (by decide +kernel), r 39 2 41 (by decide +kernel), r 39 3 42 (by decide +kernel), r 39 4 43 (by decide +kernel), hT 40 _ (by decide +kernel), hT 41 _ (by decide +kernel), hT 42 _ (by decide +kernel), hT 43 _ (by decide +kernel)⟩
  have hGP : GP h X := ⟨hT 44 _ (by decide +kernel), fun k hk => by rw [Nat.add_assoc]; exact r 44 k _ (S_gp k hk), hT 45 _ (by decide +kernel), hT 46 _ (by decide +kernel), hT 47 _ (by decide +kernel), hT 48 _ (by decide +kernel), hT 49 _ (by decide +kernel), hT 50 _ (by decide +kernel), hT 51 _ (by decide +kernel), hT 52 _ (by decide +kernel), hT 53 _ (by decide +kernel)⟩
  have hGC : GC h X := ⟨hT 54 _ (by decide +kernel), r 54 0 55 (by decide +kernel), r 54 1 56 (by decide +kernel), r 54 2 57 (by decide +kernel), hT 55 _ (by decide +kernel), hT 56 _ (by decide +kernel), hT 57 _ (by decide +kernel)⟩
  have hTr : TrS h (X + 12) := ⟨hT 12 _ (by decide +kernel), r 12 6 13 (by decide +kernel), r 12 8 14 (by decide +kernel), r 12 9 15 (by decide +kernel), r 12 11 16 (by decide +kernel), r 12 12 17 (by decide +kernel), r 12 13 18 (by decide +kernel), hT 13 _ (by decide +kernel), ⟨hT 14 _ (by decide +kernel), hT 15 _ (by decide +kernel), hT 16 _ (by decide +kernel), hT 17 _ (by decide +kernel), hT 18 _ (by decide +kernel)⟩, fun q hq => by
    rw [show X + 12 + 7 + q = X + (19 + q) by omega]
    exact ⟨r 13 q _ (S_tr q hq).1, hT _ _ (S_tr q hq).2⟩⟩
  have eN : sN (ms_of h (X + 59)).1 = 0 := by unfold sN; rw [z1 6 (by decide)]; rfl
  have eT : sT (ms_of h (X + 59)).1 = 0 := by unfold sT; rw [z1 8 (by decide)]; rfl
  have eC : sC (ms_of h (X + 59)).1 = 0 := by unfold sC; rw [z1 9 (by decide)]; rfl
  have eL : sL (ms_of h (X + 59)).1 = 0 := by unfold sL; rw [z1 3 (by decide)]; rfl
  have ek : ∀ k, k < 7 → kv (ms_of h (X + 59)).1 k = 0 := fun k hk => by
    unfold kv
    split
    · exact z1 12 (by decide)
    · exact wz 2 (by decide) (by decide) k
  have t0 : ∀ o k y, o < 122 → lkI (B_i A_i) o k = 0 → y = 0 → m_i h (X + o) k = y := fun o k y ho e e2 => by rw [e2]; exact i0 o k 0 ho e
  have hTV : TrV h (X + 12) (ms_of h (X + 59)).1 := ⟨t0 12 0 _ (by decide) (by decide +kernel) (z1 0 (by decide)), t0 12 1 _ (by decide) (by decide +kernel) (z1 1 (by decide)), t0 12 2 _ (by decide) (by decide +kernel) (z1 2 (by decide)), t0 12 3 _ (by decide) (by decide +kernel) (z1 3 (by decide)), t0 12 4 _ (by decide) (by decide +kernel) (z1 4 (by decide)), t0 12 5 _ (by decide) (by decide +kernel) (z1 6 (by decide)), t0 12 7 _ (by decide) (by decide +kernel) (z1 8 (by decide)), t0 12 10 _ (by decide) (by decide +kernel) (z1 9 (by decide)), fun k hk => by omega, fun k hk => by omega, fun q hq => by omega⟩
  have hKV : KV (m_i h (X + 11) 5) (ms_of h (X + 59)).1 := ⟨0, by decide, t0 11 5 _ (by decide) (by decide +kernel) rfl, fun k hk => by rw [ek k hk, Nat.zero_div]; rfl⟩
  have b00 : ∀ j (b : Int), j < 16 → 0 ≤ b → bd ((ms_of h (X + 59)).1 1 j) 0 b := fun j b hj hb => by rw [z1 j hj]; exact ⟨Int.le_refl _, hb⟩
  have hSta : Sta (ms_of h (X + 59)).1 := by
    refine ⟨⟨Or.inl ⟨z1 0 (by decide), z1 6 (by decide)⟩, ⟨by rw [eN]; exact z1 6 (by decide), by omega⟩, ⟨by rw [eT]; exact z1 8 (by decide), by omega⟩, ⟨by rw [eC]; exact z1 9 (by decide), by omega⟩, ⟨by rw [eL]; exact z1 3 (by decide), by omega⟩, b00 10 _ (by decide) (by decide), b00 11 _ (by decide) (by decide), b00 13 _ (by decide) (by decide), b00 1 _ (by decide) (by decide), b00 2 _ (by decide) (by decide), fun k hk => by rw [ek k hk]; exact ⟨Int.le_refl _, by decide⟩, fun k hk => by omega, fun k hk => by omega, fun q hq => by omega, fun q r hq => by omega⟩, fun q hq => by omega, fun q hq => by omega⟩
  refine ⟨hMI, fun _ => 0, 0, ⟨hGA, hRI, ⟨hT 9 _ (by decide +kernel), hT 33 _ (by decide +kernel), hT 58 _ (by decide +kernel)⟩, hCa, hGT, hGP, hGC, by omega⟩, ⟨0, by decide, w0 32 _ (by decide +kernel), t0 1 1 _ (by decide) (by decide +kernel) rfl, fun i hi => by omega⟩, ⟨by decide, w0 36 _ (by decide +kernel), t0 0 4 _ (by decide) (by decide +kernel) rfl, w0 41 _ (by decide +kernel)⟩, fun r hr => by omega, ⟨0, w0 55 _ (by decide +kernel), X + 11, X + 12, ?_, r 10 0 11 (by decide +kernel), Or.inr ⟨z1 0 (by decide), rfl, rfl, hT 11 _ (by decide +kernel), r 11 0 12 (by decide +kernel), hTr, hTV, ?_, ?_, ?_, hKV⟩, hSta, ?_, ?_, fun _ => rfl, trivial⟩, fun k hk => Or.inl ⟨wz 82 (by decide) (by decide) k, hR 33 k _ (S_im k hk)⟩⟩
  · exact ⟨hT 10 _ (by decide +kernel), r 10 5 31 (by decide +kernel), r 10 6 32 (by decide +kernel), hT 31 _ (by decide +kernel), hT 32 _ (by decide +kernel)⟩
  · exact t0 11 2 _ (by decide) (by decide +kernel) (z1 13 (by decide))
  · exact t0 11 3 _ (by decide) (by decide +kernel) (z1 11 (by decide))
  · exact t0 11 4 _ (by decide) (by decide +kernel) (z1 10 (by decide))
  · refine ⟨t0 10 1 _ (by decide) (by decide +kernel) rfl, by decide, ?_, Or.inl z16, t0 10 3 _ (by decide) (by decide +kernel) (z1 15 (by decide)), by rw [z1 15 (by decide)]; decide⟩
    rw [z16]; exact i0 10 2 _ (by decide) (by decide +kernel)
  · exact ⟨0, by decide, by rw [z1 14 (by decide)]; rfl, t0 10 4 _ (by decide) (by decide +kernel) rfl, fun k hk => by omega⟩
theorem pure_law (G : GG) (L : Nat) (xs : Nat → Int32) (hG : GI G) (hL : L ≤ 3072) : ∃ h : AH, f_law G L xs (h_0 G.1) = some (1, h) := by
  have r0 : RM G.1 0 [] [] [] (h_0 G.1) := ⟨rfl, ⟨fun e he => absurd he List.not_mem_nil, fun e he => absurd he List.not_mem_nil, fun e he => absurd he List.not_mem_nil⟩, (fun o ty e => by cases e), (fun o k b e => by cases e), fun o ho => by omega⟩
  obtain ⟨h2, a1, a2⟩ := init_11 (G := G) (r0.new (.inl 11))
  have r2 := a2.new (.inl 12)
  obtain ⟨h4, b1, b2⟩ := init_12 (G := G) r2
  obtain ⟨h', c1⟩ := law_loop (G := G) (X := G.1) (L := L) (xs := xs) hG hL 512 0 bN h4 (by omega) (by omega) (bN_gt (by decide)) (start_rel b2)
  refine ⟨h', ?_⟩
  unfold f_law
  rw [u_nn, u_nn, show f_X11_init G (m_n (h_0 G.1)) (m_new (h_0 G.1) (.inl 11)) = some h2 from a1, u_ob, u_nn, u_nn, a2.1, b1, u_ob]
  exact c1
end
