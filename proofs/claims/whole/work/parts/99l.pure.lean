/-! PURE 99l: a clause of a train, on both sides. -/
theorem ws_T {j : Nat} (hj : j < 7) : WS (j + 2) (wlT.getD j []) := by
  have : ∀ j : Nat, j < 7 → WS (j + 2) (wlT.getD j []) := by unfold WS; decide +kernel
  exact this j hj
section
variable {G : GG} {X t N k n j p : Nat} {T : Nat → Nat} {h h' h1 h2 : AH} {w w' w1 w2 wr wr' : MS} {wl : List (List Nat)} {f : Int32}
theorem t_word (hj : j < 7) : p_X12_trainWord G (nI j) w = some (G.2.2.2.1 (j + 2), w) := by
  unfold p_X12_trainWord
  obtain rfl | rfl | rfl | rfl | rfl | rfl | rfl : j = 0 ∨ j = 1 ∨ j = 2 ∨ j = 3 ∨ j = 4 ∨ j = 5 ∨ j = 6 := by omega
  all_goals rfl
def fw (N : Nat) (T : Nat → Nat) (p : Nat) : Option Nat := ff (fun q => wd N T (wlT.getD q []) p) 7 0
theorem w_loop (hG : GI G) (hT : TxW N T w) (hp : w.1 0 33 = nI p) (h9 : p ≤ 900) (v x : Int32) (K : Int32 → MS → Option MS) : ∀ (d j n : Nat), j + d = 7 → d < n → lw1 (P_X12_trainClause_11 G v x K) n (nI j) w = K (nI (match ff (fun q => wd N T (wlT.getD q []) p) d j with | some e => e | none => 7)) w
  | 0, j, n + 1, e, _ => by
    have : j = 7 := by omega
    subst this
    show P_X12_trainClause_11 G v x K _ _ _ = _
    rw [P_X12_trainClause_11, if_pos (show (7 : Int32) ≤ nI 7 by decide)]; rfl
  | d + 1, j, n + 1, e, hn => by
    show P_X12_trainClause_11 G v x K _ _ _ = _
    rw [P_X12_trainClause_11, if_neg (show ¬ (7 : Int32) ≤ nI j from nI_ge (b := 7) (by omega) (by omega)), t_word (by omega), u_cw, p_stood' hG (ws_T (by omega)) hT hp h9, u_cw]
    by_cases z : wd N T (wlT.getD j []) p = true
    · have : ff (fun q => wd N T (wlT.getD q []) p) (d + 1) j = some j := by unfold ff; exact if_pos z
      rw [if_pos z, if_neg n10, this]
    · have : ff (fun q => wd N T (wlT.getD q []) p) (d + 1) j = ff (fun q => wd N T (wlT.getD q []) p) d (j + 1) := by
        show (if wd N T (wlT.getD j []) p = true then some j else ff (fun q => wd N T (wlT.getD q []) p) d (j + 1)) = _
        rw [if_neg z]
      rw [if_neg z, if_pos rfl, u_nn, nI_1, this]
      exact w_loop hG hT hp h9 v x K d (j + 1) n (by omega) (by omega)
theorem wd_L {S : List Nat} (h : wd N T S p = true) (hS : 0 < S.length) : p < N ∧ isL (T p) = true ∧ rn isL T p (N - p) = S.length := by
  have := of_decide_eq_true h
  have e := this.1
  by_cases z : p < N
  · obtain ⟨m, hm⟩ : ∃ m, N - p = m + 1 := ⟨N - p - 1, by omega⟩
    refine ⟨z, ?_, e⟩
    rw [hm] at e
    by_cases y : isL (T p) = true
    · exact y
    · have : rn isL T p (m + 1) = 0 := by show (if isL (T p) then _ else 0) = 0; rw [if_neg y]
      omega
  · have : rn isL T p (N - p) = 0 := by rw [show N - p = 0 by omega]; rfl
    omega
theorem L_D {c : Nat} (h : isL c = true) : ¬ isD c = true := fun q => by have := isD_L q; rw [h] at this; cases this
theorem sy_some {wl : List (List Nat)} (hw : ∀ q, q < wl.length → 0 < (wl.getD q []).length) (hj : ff (fun q => wd N T (wl.getD q []) p) wl.length 0 = some j) : p < N ∧ isL (T p) = true ∧ syv wl N T p = nI (300 + j) ∧ ln N T p = (wl.getD j []).length ∧ j < wl.length := by
  obtain ⟨-, h1, h2, -⟩ := ff_some hj
  obtain ⟨a, b, c⟩ := wd_L h2 (hw j (by omega))
  refine ⟨a, b, ?_, ?_, by omega⟩
  · unfold syv wcd; rw [if_pos a, if_neg (L_D b), if_pos b, hj]
  · unfold ln; rw [if_neg (L_D b), if_pos b, c]
theorem sy_none {wl : List (List Nat)} (hT : TxW N T w) (hj : ff (fun q => wd N T (wl.getD q []) p) wl.length 0 = none) : ∃ c, c < 300 ∧ syv wl N T p = nI c := by
  unfold syv
  by_cases z : p < N
  · have hb := (hT.2.2 p z).2.1
    rw [if_pos z]
    by_cases a : isD (T p) = true
    · rw [if_pos a]; exact ⟨256, by decide, rfl⟩
    · rw [if_neg a]
      by_cases b : isL (T p) = true
      · rw [if_pos b]; unfold wcd; rw [hj]; exact ⟨258, by decide, rfl⟩
      · rw [if_neg b]
        split
        · split
          · exact ⟨259, by decide, rfl⟩
          · exact ⟨260, by decide, rfl⟩
        · exact ⟨T p, by omega, rfl⟩
  · rw [if_neg z]; exact ⟨257, by decide, rfl⟩
/-- a fault on both sides -/
theorem failH (hs : SyH wl N T X h w k 0) {c : Nat} (hc : c ≤ 4) (hF : FrW w w1) (h34 : w1.1 0 34 = 0) (h33 : ∃ q, w1.1 0 33 = nI q ∧ q ≤ 402) : ∃ h' w' f', lrv 0 (X + 1) (s_X8_fail G (nI c)) h = some h' ∧ p_X12_fails G (nI c) (nI (tp N T k)) w1 = some w' ∧ SyH wl N T X h' w' k f' ∧ f' ≠ 0 ∧ Fr (fun a => a = X + 1) h h' ∧ FrW w w' := by
  obtain ⟨hK, hX, hC, hT, hW⟩ := hs.2
  have hN := hT.1
  obtain ⟨wr1, b1, b2, b3, b4⟩ := q_fail (G := G) hN hK hC (nI c)
  obtain ⟨w2, d1, d2, d3, d4⟩ := p_fails' (G := G) h34 (nI c) (nI (tp N T k))
  rw [if_pos rfl] at b4 d4
  have hne := flt_ne (N := N) (T := T) (k := k) hN hc
  obtain ⟨q, h2, h3⟩ := h33
  exact ⟨_, w2, _, lrv_e hs.1 b1, d1, hs.rh b2 ⟨b3, tx_C hX b2, b4, (hF.tr d2).tx hT, d4, q, by rw [d3]; exact h2, ⟨h3, flt_FO hN hc⟩, fun z => absurd z hne⟩, hne, (rh_f b2).1, hF.tr d2⟩
theorem advH (hs : SyH wl N T X h w k 0) (hk : k < tK N T) (hF : FrW w w1) (h34 : w1.1 0 34 = 0) (h33 : w1.1 0 33 = nI (tp N T k + ln N T (tp N T k))) : ∃ h', lrv 0 (X + 1) (s_X8_advance G) h = some h' ∧ SyH wl N T X h' w1 (k + 1) 0 ∧ Fr (fun a => a = X + 1) h h' := by
  obtain ⟨hK, hX, hC, hT, hW⟩ := hs.2
  have hN := hT.1
  obtain ⟨wr1, b1, b2, b3, b4⟩ := adv_C (G := G) hN hK hC hk
  have te := tk_end hk
  have tl := tp_le (N := N) (T := T) (k + 1)
  exact ⟨_, lrv_e hs.1 b1, hs.rh b2 ⟨b3, tx_C hX b2, b4, hF.tx hT, h34, _, h33, ⟨by omega, FO_0⟩, fun _ => ⟨te, tk_gap hk⟩⟩, (rh_f b2).1⟩
/-- the same clauses are out of place -/
theorem place (hR : RI h (X + 1)) (hT : TrS h t) (hd : TD h X t w) (hj : j < 7) (hn : n < 40) : ∃ b : Bool, f_X10_isOutOfPlace G (X + 6) t (nI (300 + j)) (nI n) h = some (if b then 1 else 0, h) ∧ p_X12_isFull G (nI j) (nI n) w = some (if b then 1 else 0, w) ∧ (b = false → (j = 0 ↔ n = 0) ∧ (j = 2 → ¬ w.1 20 6 = 8) ∧ (j = 5 → ¬ w.1 20 8 = 5) ∧ (j = 6 → ¬ w.1 20 9 = 5)) := by
  obtain ⟨s, N1, a, b, c, -⟩ := hd
  obtain ⟨c1, c2, c3, c4, c5, c6, c7, c8, c9⟩ := c
  obtain ⟨p1, p2, p3⟩ := rd6 hR
  have n40 : ¬ nI n = (40 : Int32) := fun q => by have := (nI_eq (a := n) (b := 40) (by omega) (by decide)).mp q; omega
  unfold f_X10_isOutOfPlace p_X12_isFull
  rw [if_neg n40, u_nn]
  by_cases z : n = 0
  · subst z
    by_cases y : j = 0
    · subst y; exact ⟨false, rfl, rfl, fun _ => ⟨Iff.rfl, fun q => by omega, fun q => by omega, fun q => by omega⟩⟩
    · refine ⟨true, ?_, ?_, fun q => by cases q⟩
      · rw [if_pos rfl, if_neg (show ¬ nI (300 + j) = (300 : Int32) from fun q => by have := (nI_eq (a := 300 + j) (b := 300) (by omega) (by decide)).mp q; omega)]; rfl
      · rw [if_neg (show ¬ nI j = 0 from fun q => by have := (nI_eq (a := j) (b := 0) (by omega) (by decide)).mp q; omega)]; rfl
  · have nz : ¬ nI n = 0 := fun q => by have := (nI_eq (a := n) (b := 0) (by omega) (by decide)).mp q; omega
    rw [if_neg nz]
    have cond : ∀ (m M : Nat), m ≤ M → M ≤ 8 → (if nI m < nI M then (0 : Int32) else 1) = (if nI m = nI M then (1 : Int32) else 0) := fun m M q1 q2 => by
      by_cases y : m < M
      · rw [if_pos (nI_lt y (by omega)), if_neg (fun q => by have := (nI_eq (by omega) (by omega)).mp q; omega)]
      · rw [if_neg (nI_nlt (by omega) (by omega)), if_pos (by rw [show m = M by omega])]
    obtain rfl | rfl | rfl | rfl | rfl | rfl | rfl : j = 0 ∨ j = 1 ∨ j = 2 ∨ j = 3 ∨ j = 4 ∨ j = 5 ∨ j = 6 := by omega
    · refine ⟨true, rfl, ?_, fun q => by cases q⟩
      rw [if_pos rfl]; dsimp only; rw [u_nn, if_neg nz]; rfl
    · by_cases y : w.1 20 5 = 1
      · refine ⟨true, ?_, ?_, fun q => by cases q⟩
        · show (ck (m_t h (X + 6) = .inl 10) <| ck ((m_i h (X + 6) 1) &&& 1 = m_i h (X + 6) 1) <| some (m_i h (X + 6) 1, h)) = _
          rw [u_ck p1, s.2.2.2.2.2.2.2.2.1, y, u_ck (show (1 : Int32) &&& 1 = 1 from rfl)]; rfl
        · rw [if_neg (by decide)]; dsimp only; rw [u_nn, if_neg nz]; dsimp only; rw [if_pos rfl, if_pos (show nI 1 = (1 : Int32) from rfl), u_ck ix_10_5, tn_5, if_pos y]; rfl
      · refine ⟨false, ?_, ?_, fun q => ⟨by omega, fun q => by omega, fun q => by omega, fun q => by omega⟩⟩
        · show (ck (m_t h (X + 6) = .inl 10) <| ck ((m_i h (X + 6) 1) &&& 1 = m_i h (X + 6) 1) <| some (m_i h (X + 6) 1, h)) = _
          rw [u_ck p1, s.2.2.2.2.2.2.2.2.1, s.2.2.2.2.2.2.2.2.2.resolve_right y, u_ck (show (0 : Int32) &&& 1 = 0 from rfl)]; rfl
        · rw [if_neg (by decide)]; dsimp only; rw [u_nn, if_neg nz]; dsimp only; rw [if_pos rfl, if_pos (show nI 1 = (1 : Int32) from rfl), u_ck ix_10_5, tn_5, if_neg y]; rfl
    · have cc := cond N1 8 c1 (Nat.le_refl _)
      have ee : (if nI N1 < nI 8 then some ((0 : Int32), h) else some ((1 : Int32), h)) = some ((if nI N1 < nI 8 then (0 : Int32) else 1), h) := by split <;> rfl
      have cl : (ck (m_t h t = .inl 9) <| if (m_i h t 5) < (8 : Int32) then (some ((0 : Int32), h)) else some ((1 : Int32), h)) = some ((if nI N1 = nI 8 then (1 : Int32) else 0), h) := by
        rw [u_ck hT.1, c7]; exact ee.trans (by rw [cc])
      by_cases y : w.1 20 6 = 8
      · refine ⟨true, ?_, ?_, fun q => by cases q⟩
        · refine Eq.trans cl ?_; rw [if_pos (show nI N1 = nI 8 from c4.symm.trans y)]; rfl
        · rw [if_neg (by decide)]; dsimp only; rw [u_nn, if_neg nz]; dsimp only; rw [if_pos rfl, if_neg (by decide), if_pos (show nI 2 = (2 : Int32) from rfl), u_ck ix_10_6, tn_6, if_pos y]; rfl
      · refine ⟨false, ?_, ?_, fun q => ⟨by omega, fun _ => y, fun q => by omega, fun q => by omega⟩⟩
        · refine Eq.trans cl ?_; rw [if_neg (show ¬ nI N1 = nI 8 from fun q => y (c4.trans q))]; rfl
        · rw [if_neg (by decide)]; dsimp only; rw [u_nn, if_neg nz]; dsimp only; rw [if_pos rfl, if_neg (by decide), if_pos (show nI 2 = (2 : Int32) from rfl), u_ck ix_10_6, tn_6, if_neg y]; rfl
    · refine ⟨false, rfl, ?_, fun q => ⟨by omega, fun q => by omega, fun q => by omega, fun q => by omega⟩⟩
      rw [if_neg (by decide)]; dsimp only; rw [u_nn, if_neg nz]; dsimp only; rw [if_pos rfl]; rfl
    · refine ⟨false, rfl, ?_, fun q => ⟨by omega, fun q => by omega, fun q => by omega, fun q => by omega⟩⟩
      rw [if_neg (by decide)]; dsimp only; rw [u_nn, if_neg nz]; dsimp only; rw [if_pos rfl]; rfl
    · have cc := cond a 5 c2 (by decide)
      have ee : (if nI a < nI 5 then some ((0 : Int32), h) else some ((1 : Int32), h)) = some ((if nI a < nI 5 then (0 : Int32) else 1), h) := by split <;> rfl
      have cl : (ck (m_t h t = .inl 9) <| if (m_i h t 7) < (5 : Int32) then (some ((0 : Int32), h)) else some ((1 : Int32), h)) = some ((if nI a = nI 5 then (1 : Int32) else 0), h) := by
        rw [u_ck hT.1, c8]; exact ee.trans (by rw [cc])
      by_cases y : w.1 20 8 = 5
      · refine ⟨true, ?_, ?_, fun q => by cases q⟩
        · refine Eq.trans cl ?_; rw [if_pos (show nI a = nI 5 from c5.symm.trans y)]; rfl
        · rw [if_neg (by decide)]; dsimp only; rw [u_nn, if_neg nz]; dsimp only; rw [if_pos rfl, if_neg (by decide), if_neg (by decide), if_neg (by decide), if_neg (by decide), if_pos (show nI 5 = (5 : Int32) from rfl), u_ck ix_10_8, tn_8, if_pos y]; rfl
      · refine ⟨false, ?_, ?_, fun q => ⟨by omega, fun q => by omega, fun _ => y, fun q => by omega⟩⟩
        · refine Eq.trans cl ?_; rw [if_neg (show ¬ nI a = nI 5 from fun q => y (c5.trans q))]; rfl
        · rw [if_neg (by decide)]; dsimp only; rw [u_nn, if_neg nz]; dsimp only; rw [if_pos rfl, if_neg (by decide), if_neg (by decide), if_neg (by decide), if_neg (by decide), if_pos (show nI 5 = (5 : Int32) from rfl), u_ck ix_10_8, tn_8, if_neg y]; rfl
    · have cc := cond b 5 c3 (by decide)
      have ee : (if nI b < nI 5 then some ((0 : Int32), h) else some ((1 : Int32), h)) = some ((if nI b < nI 5 then (0 : Int32) else 1), h) := by split <;> rfl
      have cl : (ck (m_t h t = .inl 9) <| if (m_i h t 10) < (5 : Int32) then (some ((0 : Int32), h)) else some ((1 : Int32), h)) = some ((if nI b = nI 5 then (1 : Int32) else 0), h) := by
        rw [u_ck hT.1, c9]; exact ee.trans (by rw [cc])
      by_cases y : w.1 20 9 = 5
      · refine ⟨true, ?_, ?_, fun q => by cases q⟩
        · refine Eq.trans cl ?_; rw [if_pos (show nI b = nI 5 from c6.symm.trans y)]; rfl
        · rw [if_neg (by decide)]; dsimp only; rw [u_nn, if_neg nz]; dsimp only; rw [if_pos rfl, if_neg (by decide), if_neg (by decide), if_neg (by decide), if_neg (by decide), if_neg (by decide), if_pos (show nI 6 = (6 : Int32) from rfl), u_ck ix_10_9, tn_9, if_pos y]; rfl
      · refine ⟨false, ?_, ?_, fun q => ⟨by omega, fun q => by omega, fun q => by omega, fun _ => y⟩⟩
        · refine Eq.trans cl ?_; rw [if_neg (show ¬ nI b = nI 5 from fun q => y (c6.trans q))]; rfl
        · rw [if_neg (by decide)]; dsimp only; rw [u_nn, if_neg nz]; dsimp only; rw [if_pos rfl, if_neg (by decide), if_neg (by decide), if_neg (by decide), if_neg (by decide), if_neg (by decide), if_pos (show nI 6 = (6 : Int32) from rfl), u_ck ix_10_9, tn_9, if_neg y]; rfl
end
