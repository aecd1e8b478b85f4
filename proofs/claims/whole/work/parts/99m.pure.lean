/-! PURE 99m: a clause of a train, the whole of it; the train's text. -/
section
variable {G : GG} {X t N k n j p : Nat} {T : Nat → Nat} {h h' h1 h2 : AH} {w w' w1 w2 wr wr' : MS} {wl : List (List Nat)} {f : Int32}
theorem wlT_pos (q : Nat) (hq : q < wlT.length) : 0 < (wlT.getD q []).length := by
  have : ∀ q : Nat, q < 7 → 0 < (wlT.getD q []).length := by decide
  exact this q hq
def Clz (n : Nat) (wl : List (List Nat)) (N : Nat) (T : Nat → Nat) (X t : Nat) (h : AH) (w : MS) (F : Option AH) (P : Option MS) : Prop := ∃ h' w' k' f', F = some h' ∧ P = some w' ∧ SyH wl N T X h' w' k' f' ∧ Fr (STn X t) h h' ∧ (∀ r, (r ≠ 0 ∧ r < 20) ∨ 31 < r → w'.1 r = w.1 r) ∧ (∀ j, j ≠ 33 → j ≠ 34 → w'.1 0 j = w.1 0 j) ∧ (f' = 0 → TD h' X t w' ∧ n ≠ 40 ∧ (w.1 20 0 = 1 ∨ n = 0 → w'.1 20 0 = 1))
theorem clause_both (hG : GI G) (hs : SyH wlT N T X h w k 0) (hX : X + 122 ≤ t) (hT : TrS h t) (hd : TD h X t w) (hn : n ≤ 40) : Clz n wlT N T X t h w (f_X10_readClause G (X + 6) t (nI n) h) (p_X12_trainClause G (nI n) w) := by
  obtain ⟨p1, p2, p3⟩ := rd6 hs.1
  obtain ⟨hK, hXc, hC, hTw, hW⟩ := hs.2
  have hN := hTw.1
  have bl := blanks_W (G := G) hTw hW
  have tle := tp_le (N := N) (T := T) k
  have hTb : TxW N T (w_si w 0 33 (nI (tp N T k))) := hTw.s33 (by decide)
  have f33 : (w_si w 0 33 (nI (tp N T k))).1 0 33 = nI (tp N T k) := w_si_s _ _ _ _
  have f34 : (w_si w 0 33 (nI (tp N T k))).1 0 34 = 0 := by rw [w_si_j (by decide)]; exact hW.1
  have fW : FrW w (w_si w 0 33 (nI (tp N T k))) := FrW.s (Or.inl rfl)
  have hdb : TD h X t (w_si w 0 33 (nI (tp N T k))) := hd.f1 Fr.rf hX fW
  have e7 : m_i h (X + 1) 7 = syv wlT N T (tp N T k) := hC.2.2.1
  have e9 : m_i h (X + 1) 9 = 0 := hC.2.2.2.2
  generalize hwb : w_si w 0 33 (nI (tp N T k)) = wb at bl hTb f33 f34 fW hdb
  -- the loop over the words
  have rl := fun x K => w_loop hG hTb f33 (by omega) (nI n) x K 7 0 bN rfl (bN_gt (by decide))
  -- what a fault gives
  have bad : ∀ c : Nat, c ≤ 4 → (∀ h', lrv 0 (X + 1) (s_X8_fail G (nI c)) h = some h' → m_i h' (X + 1) 9 ≠ 0 → m_t h' = m_t h → m_r h' = m_r h → f_X10_readClause G (X + 6) t (nI n) h = some h') → (∀ w', p_X12_fails G (nI c) (nI (tp N T k)) wb = some w' → p_X12_trainClause G (nI n) w = some w') → Clz n wlT N T X t h w (f_X10_readClause G (X + 6) t (nI n) h) (p_X12_trainClause G (nI n) w) := fun c hc hcl hrf => by
    obtain ⟨ha, wa, fa, a1, a2, a3, a4, a5, a6⟩ := failH (G := G) hs hc fW f34 ⟨_, f33, by omega⟩
    exact ⟨ha, wa, k, fa, hcl ha a1 (by rw [show m_i ha (X + 1) 9 = fa from a3.2.2.2.1.2.2.2.2]; exact a4) a5.1 a5.2.1, hrf wa a2, a3, Fr.tn1 a5, fun r hr => a6.1 r (by omega), a6.2, fun z => absurd z a4⟩
  cases hff : ff (fun q => wd N T (wlT.getD q []) (tp N T k)) 7 0 with
  | none =>
    rw [hff] at rl
    obtain ⟨c, c1, c2⟩ := sy_none (wl := wlT) hTb hff
    refine bad 0 (by decide) (fun h' h1 h2 t1 t2 => ?_) (fun w' h1 => ?_)
    · unfold f_X10_readClause
      rw [u_ck p1, p2, u_ob, u_ck p3, u_nn, e7, c2, u_nn, if_neg (show ¬ (300 : Int32) ≤ nI c from nI_ge (b := 300) c1 (by omega)), u_ob, u_ck p3, show lrv 0 (X + 1) (s_X8_fail G (0 : Int32)) h = some h' from h1, u_ob]
      dsimp only
      rw [t1, u_ck p1, t2, p2, u_ob, u_ck p3, if_neg h2]
    · unfold p_X12_trainClause
      rw [bl, u_ob, f33, u_nn]
      refine (rl _ _).trans ?_
      dsimp only
      rw [if_pos (show nI 7 = (7 : Int32) from rfl), show p_X12_fails G (0 : Int32) (nI (tp N T k)) wb = some w' from h1, u_ob]
  | some j =>
    rw [hff] at rl
    obtain ⟨s1, s2, s3, s4, s5⟩ := sy_some (wl := wlT) wlT_pos hff
    have hj : j < 7 := s5
    have j7 : ¬ nI j = (7 : Int32) := fun q => by have := (nI_eq (a := j) (b := 7) (by omega) (by decide)).mp q; omega
    have le3 : (300 : Int32) ≤ nI (300 + j) := nI_le (a := 300) (by omega) (by omega)
    have full : ∀ b : Bool, p_X12_isFull G (nI j) (nI n) wb = some (if b then 1 else 0, wb) → p_X12_trainClause G (nI n) w = (if b then ob (p_X12_fails G (4 : Int32) (nI (tp N T k)) wb) fun w29 => some w29 else ob (p_X12_trainPart G (nI j) (w_si wb 0 33 (nI (tp N T k + ln N T (tp N T k))))) fun w27 => some w27) := fun b hb => by
      unfold p_X12_trainClause
      rw [bl, u_ob, f33, u_nn]
      refine (rl _ _).trans ?_
      dsimp only
      rw [if_neg j7, hb, u_cw]
      cases b with
      | true => rw [if_pos rfl, if_neg n10, if_pos rfl]
      | false => rw [if_pos (show (if false = true then (1 : Int32) else 0) = 0 from rfl), if_neg (show ¬ false = true by decide), t_word hj, u_cw, q_len hG (by omega), u_cw, f33, (ws_T hj).2.1, nI_add, u_nn, s4]
    -- too many clauses, or out of place
    have out : p_X12_isFull G (nI j) (nI n) wb = some (1, wb) → (nI n = (40 : Int32) ∨ f_X10_isOutOfPlace G (X + 6) t (nI (300 + j)) (nI n) h = some (1, h)) → Clz n wlT N T X t h w (f_X10_readClause G (X + 6) t (nI n) h) (p_X12_trainClause G (nI n) w) := fun q1 q2 => by
      refine bad 4 (by decide) (fun h' h1 h2 t1 t2 => ?_) (fun w' h1 => ?_)
      · have fl : lrv 0 (X + 1) (s_X8_fail G (4 : Int32)) h = some h' := h1
        unfold f_X10_readClause
        rw [u_ck p1, p2, u_ob, u_ck p3, u_nn, e7, s3, u_nn, if_pos le3, u_nn]
        by_cases z : nI n = (40 : Int32)
        · rw [if_pos z]; dsimp only
          rw [u_ck p1, p2, u_ob, u_ck p3, fl, u_ob, t1, u_ck p1, t2, p2, u_ob, u_ck p3, if_neg h2]
        · rw [if_neg z, q2.resolve_left z, u_cb, if_neg n10]; dsimp only
          rw [u_ck p1, p2, u_ob, u_ck p3, fl, u_ob, t1, u_ck p1, t2, p2, u_ob, u_ck p3, if_neg h2]
      · rw [full true q1, if_pos rfl, show p_X12_fails G (4 : Int32) (nI (tp N T k)) wb = some w' from h1, u_ob]
    by_cases z40 : n = 40
    · subst z40
      refine out ?_ (Or.inl rfl)
      unfold p_X12_isFull
      rw [if_pos (show nI 40 = (40 : Int32) from rfl)]
    · obtain ⟨b, b1, b2, b3⟩ := place (G := G) hs.1 hT hdb hj (n := n) (by omega)
      cases b with
      | true => exact out b2 (Or.inr b1)
      | false =>
        have b3 := b3 rfl
        have n40 : ¬ nI n = (40 : Int32) := fun q => by have := (nI_eq (a := n) (b := 40) (by omega) (by decide)).mp q; omega
        have hk : k < tK N T := (tp_K hC.1).mp s1
        have gW : FrW w (w_si wb 0 33 (nI (tp N T k + ln N T (tp N T k)))) := fW.tr (FrW.s (Or.inl rfl))
        have g34 : (w_si wb 0 33 (nI (tp N T k + ln N T (tp N T k)))).1 0 34 = 0 := by rw [w_si_j (by decide)]; exact f34
        have g33 : (w_si wb 0 33 (nI (tp N T k + ln N T (tp N T k)))).1 0 33 = nI (tp N T k + ln N T (tp N T k)) := w_si_s _ _ _ _
        obtain ⟨ha, a1, a2, a3⟩ := advH (G := G) hs hk gW g34 g33
        have ref := full false b2
        rw [if_neg (by decide)] at ref
        have hTa : TrS ha t := hT.fr' a3
        have hda : TD ha X t (w_si wb 0 33 (nI (tp N T k + ln N T (tp N T k)))) := hd.f1 a3 hX gW
        generalize hwc : w_si wb 0 33 (nI (tp N T k + ln N T (tp N T k))) = wc at gW g34 g33 a2 ref hda
        have tt : m_t ha (X + 6) = .inl 10 := by rw [a3.1]; exact p1
        have cls : f_X10_readClause G (X + 6) t (nI n) h = (if nI (300 + j) = (300 : Int32) then (ck (m_t ha (X + 6) = .inl 10) <| ob (f_X10_readStart G (X + 6) t ha) fun h15 => some h15) else if nI (300 + j) = (301 : Int32) then (ck (m_t ha (X + 6) = .inl 10) <| ob (f_X10_readHole G (X + 6) t ha) fun h19 => some h19) else if nI (300 + j) = (302 : Int32) then (ck (m_t ha (X + 6) = .inl 10) <| ob (f_X10_readPerson G (X + 6) t ha) fun h23 => some h23) else if nI (300 + j) = (303 : Int32) then (ck (m_t ha (X + 6) = .inl 10) <| ob (f_X10_readFront G (X + 6) t ha) fun h27 => some h27) else if nI (300 + j) = (304 : Int32) then (ck (m_t ha (X + 6) = .inl 10) <| ob (f_X10_readSays G (X + 6) t ha) fun h31 => some h31) else if nI (300 + j) = (305 : Int32) then (ck (m_t ha (X + 6) = .inl 10) <| ob (f_X10_readTunnel G (X + 6) t ha) fun h35 => some h35) else ck (m_t ha (X + 6) = .inl 10) <| ob (f_X10_readCold G (X + 6) t ha) fun h38 => some h38) := by
          unfold f_X10_readClause
          rw [u_ck p1, p2, u_ob, u_ck p3, u_nn, e7, s3, u_nn, if_pos le3, u_nn, if_neg n40, b1, u_cb]
          dsimp only
          rw [if_neg (by decide : ¬ false = true), if_pos rfl, u_ck p1, p2, u_ob, u_ck p3, if_pos e9, u_ob, u_ck p3, a1, u_ob]
        have fin : ∀ (b : Prop) (F : Option AH) (P : Option MS), Cls b wlT N T X t ha wc F P → f_X10_readClause G (X + 6) t (nI n) h = (ck (m_t ha (X + 6) = .inl 10) <| ob F fun h38 => some h38) → p_X12_trainClause G (nI n) w = (ob P fun w27 => some w27) → (n = 0 → b) → Clz n wlT N T X t h w (f_X10_readClause G (X + 6) t (nI n) h) (p_X12_trainClause G (nI n) w) := fun b F P hcl h1 h2 h3 => by
          obtain ⟨h', w', k', f', y1, y2, y3, y4, y5, y6, y7⟩ := hcl
          refine ⟨h', w', k', f', by rw [h1, u_ck tt, y1, u_ob], by rw [h2, y2, u_ob], y3, (Fr.tn1 a3).tr y4, fun r hr => (y5 r hr).trans (gW.1 r (by omega)), fun i q1 q2 => (y6 i q1 q2).trans (gW.2 i q1 q2), fun z => ⟨(y7 z).1, z40, fun y => (y7 z).2 ?_⟩⟩
          rcases y with y | y
          · exact Or.inl (by rw [gW.1 20 (by decide)]; exact y)
          · exact Or.inr (h3 y)
        have l20 : wlT.length ≤ 20 := by decide
        have gw20 : wb.1 20 = w.1 20 := fW.1 20 (by decide)
        have gc20 : wc.1 20 = w.1 20 := gW.1 20 (by decide)
        rw [gw20] at b3
        obtain rfl | rfl | rfl | rfl | rfl | rfl | rfl : j = 0 ∨ j = 1 ∨ j = 2 ∨ j = 3 ∨ j = 4 ∨ j = 5 ∨ j = 6 := by omega
        · exact fin True _ _ (cl_start (G := G) l20 a2 hX hTa hda) cls ref (fun _ => trivial)
        · exact fin False _ _ (cl_hole (G := G) l20 a2 hX hTa hda) cls ref (fun q => absurd (b3.1.mpr q) (by decide))
        · exact fin False _ _ (cl_person (G := G) l20 a2 hX hTa hda (by rw [gc20]; exact b3.2.1 rfl)) cls ref (fun q => absurd (b3.1.mpr q) (by decide))
        · exact fin False _ _ (cl_front (G := G) l20 a2 hX hTa hda) cls ref (fun q => absurd (b3.1.mpr q) (by decide))
        · exact fin False _ _ (cl_says (G := G) l20 a2 hX hTa hda) cls ref (fun q => absurd (b3.1.mpr q) (by decide))
        · exact fin False _ _ (cl_tunnel (G := G) l20 a2 hX hTa hda (by rw [gc20]; exact b3.2.2.1 rfl)) cls ref (fun q => absurd (b3.1.mpr q) (by decide))
        · exact fin False _ _ (cl_cold (G := G) l20 a2 hX hTa hda (by rw [gc20]; exact b3.2.2.2 rfl) (y := nI 6) (by decide)) cls ref (fun q => absurd (b3.1.mpr q) (by decide))
end
