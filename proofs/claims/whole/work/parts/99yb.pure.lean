/-! PURE 99yb: a comparison: its steps. -/
section
variable {G : GG} {X t N k n j p r c E C W m v2 M E1 : Nat} {T : Nat → Nat} {w w' w0 w1 w2 w6 wr wr' wr1 : MS} {f v1 : Int32} {wl : List (List Nat)}
/-- the symbol of a comparison, its length, its sort -/
def cmS (N : Nat) (T : Nat → Nat) (p : Nat) (x : Int32) (l : Nat) (e : Int32) : Prop := (x = 60 ∧ l = 1 ∧ e = 4 ∧ T p = 60 ∧ ¬ (p + 1 < N ∧ T (p + 1) = 61)) ∨ (x = 259 ∧ l = 2 ∧ e = 5 ∧ T p = 60 ∧ p + 1 < N ∧ T (p + 1) = 61) ∨ (x = 61 ∧ l = 1 ∧ e = 6 ∧ T p = 61) ∨ (x = 260 ∧ l = 2 ∧ e = 7 ∧ T p = 62 ∧ p + 1 < N ∧ T (p + 1) = 61) ∨ (x = 62 ∧ l = 1 ∧ e = 8 ∧ T p = 62 ∧ ¬ (p + 1 < N ∧ T (p + 1) = 61))
theorem cm_sy (hp : p < N) (h : T p = 60 ∨ T p = 61 ∨ T p = 62) : ∃ x l e, cmS N T p x l e ∧ syv wl N T p = x ∧ ln N T p = l := by
  have d : ∀ q : Nat, q = 60 ∨ q = 61 ∨ q = 62 → isD q = false ∧ isL q = false := fun q hq => by rcases hq with rfl | rfl | rfl <;> decide
  obtain ⟨d1, d2⟩ := d _ h
  have es : syv wl N T p = if (T p = 60 ∨ T p = 62) ∧ p + 1 < N ∧ T (p + 1) = 61 then (if T p = 60 then 259 else 260) else nI (T p) := by unfold syv; rw [if_pos hp, if_neg (by rw [d1]; decide), if_neg (by rw [d2]; decide)]
  have el : ln N T p = if (T p = 60 ∨ T p = 62) ∧ p + 1 < N ∧ T (p + 1) = 61 then 2 else 1 := by unfold ln; rw [if_neg (by rw [d1]; decide), if_neg (by rw [d2]; decide)]
  rw [es, el]
  rcases h with h | h | h
  · by_cases z : p + 1 < N ∧ T (p + 1) = 61
    · have cn : (T p = 60 ∨ T p = 62) ∧ p + 1 < N ∧ T (p + 1) = 61 := ⟨Or.inl h, z⟩
      rw [if_pos cn, if_pos cn, if_pos h]
      exact ⟨259, 2, 5, Or.inr (Or.inl ⟨rfl, rfl, rfl, h, z⟩), rfl, rfl⟩
    · have cn : ¬ ((T p = 60 ∨ T p = 62) ∧ p + 1 < N ∧ T (p + 1) = 61) := fun q => z q.2
      rw [if_neg cn, if_neg cn]
      exact ⟨60, 1, 4, Or.inl ⟨rfl, rfl, rfl, h, z⟩, by rw [h]; rfl, rfl⟩
  · have cn : ¬ ((T p = 60 ∨ T p = 62) ∧ p + 1 < N ∧ T (p + 1) = 61) := fun q => by omega
    rw [if_neg cn, if_neg cn]
    exact ⟨61, 1, 6, Or.inr (Or.inr (Or.inl ⟨rfl, rfl, rfl, h⟩)), by rw [h]; rfl, rfl⟩
  · by_cases z : p + 1 < N ∧ T (p + 1) = 61
    · have cn : (T p = 60 ∨ T p = 62) ∧ p + 1 < N ∧ T (p + 1) = 61 := ⟨Or.inr h, z⟩
      rw [if_pos cn, if_pos cn, if_neg (by omega)]
      exact ⟨260, 2, 7, Or.inr (Or.inr (Or.inr (Or.inl ⟨rfl, rfl, rfl, h, z⟩))), rfl, rfl⟩
    · have cn : ¬ ((T p = 60 ∨ T p = 62) ∧ p + 1 < N ∧ T (p + 1) = 61) := fun q => z q.2
      rw [if_neg cn, if_neg cn]
      exact ⟨62, 1, 8, Or.inr (Or.inr (Or.inr (Or.inr ⟨rfl, rfl, rfl, h, z⟩))), by rw [h]; rfl, rfl⟩
theorem cm_no (hl20 : wl.length ≤ 20) (hT : TxW N T w) (h : ¬ (p < N ∧ (T p = 60 ∨ T p = 61 ∨ T p = 62))) : syv wl N T p ≠ 60 ∧ syv wl N T p ≠ 259 ∧ syv wl N T p ≠ 61 ∧ syv wl N T p ≠ 260 ∧ syv wl N T p ≠ 62 := by
  have key : ∃ q : Nat, syv wl N T p = nI q ∧ q < 400 ∧ q ≠ 60 ∧ q ≠ 259 ∧ q ≠ 61 ∧ q ≠ 260 ∧ q ≠ 62 := by
    unfold syv
    by_cases z : p < N
    · have hb := (hT.2.2 p z).2.1
      have h' : ¬ (T p = 60 ∨ T p = 61 ∨ T p = 62) := fun q => h ⟨z, q⟩
      rw [if_pos z]
      by_cases a : isD (T p) = true
      · rw [if_pos a]; exact ⟨256, rfl, by decide, by decide, by decide, by decide, by decide, by decide⟩
      · rw [if_neg a]
        by_cases b : isL (T p) = true
        · rw [if_pos b]
          unfold wcd
          cases hff : ff (fun k => wd N T (wl.getD k []) p) wl.length 0 with
          | some q => have := (ff_some hff).2.1; exact ⟨300 + q, rfl, by omega, by omega, by omega, by omega, by omega, by omega⟩
          | none => exact ⟨258, rfl, by decide, by decide, by decide, by decide, by decide, by decide⟩
        · rw [if_neg b, if_neg (fun q => by omega)]
          exact ⟨T p, rfl, by omega, by omega, by omega, by omega, by omega, by omega⟩
    · rw [if_neg z]; exact ⟨257, rfl, by decide, by decide, by decide, by decide, by decide, by decide⟩
  obtain ⟨q, e, h0, h1, h2, h3, h4, h5⟩ := key
  rw [e]
  exact ⟨fun y => h1 ((nI_eq (a := q) (b := 60) (by omega) (by decide)).mp y), fun y => h2 ((nI_eq (a := q) (b := 259) (by omega) (by decide)).mp y), fun y => h3 ((nI_eq (a := q) (b := 61) (by omega) (by decide)).mp y), fun y => h4 ((nI_eq (a := q) (b := 260) (by omega) (by decide)).mp y), fun y => h5 ((nI_eq (a := q) (b := 62) (by omega) (by decide)).mp y)⟩
/-- the reference after the first sum -/
theorem cmpR {x e : Int32} {l : Nat} (hsum : p_X12_sum G w0 = some w) (hT : TxW N T w) (hp : w.1 0 33 = nI p) (hpN : p < N) (hc : cmS N T p x l e) (hcn : p_X12_isCounted G (nI p) w = some w6) (hT6 : TxW N T w6) (hp6 : w6.1 0 33 = nI p) : p_X12_compared G w0 = ob (p_X12_sum G (w_si (w_si w6 0 33 (nI (p + 1))) 0 33 (nI (p + l)))) fun w10 => ob (p_X12_entry G e 0 w10) fun w12 => some w12 := by
  have hN := hT.1
  have hT8 : TxW N T (w_si w6 0 33 (nI (p + 1))) := hT6.s33 (by decide)
  have hp8 : (w_si w6 0 33 (nI (p + 1))).1 0 33 = nI (p + 1) := w_si_s _ _ _ _
  have sg8 := p_sign' (G := G) hT8 hp8 (by omega)
  have sg : ∀ d : Nat, d < 256 → (sgn N T p = nI d ↔ T p = d) := fun d hd => by rw [sgn_eq hT hd]; exact ⟨fun q => q.2, fun q => ⟨hpN, q⟩⟩
  have y8 : sgn N T (p + 1) = (61 : Int32) ↔ p + 1 < N ∧ T (p + 1) = 61 := sgn_eq hT (c := 61) (by decide)
  have z0 : nI (p + 1) + (0 : Int32) = nI (p + 1) := Int32.add_zero _
  have z1 : nI (p + 1) + (1 : Int32) = nI (p + 2) := nI_1 (p + 1)
  unfold p_X12_compared
  rw [hsum, u_ob, p_sign' hT hp (by omega), u_cw]
  rcases hc with ⟨-, rfl, rfl, h1, h2⟩ | ⟨-, rfl, rfl, h1, h2⟩ | ⟨-, rfl, rfl, h1⟩ | ⟨-, rfl, rfl, h1, h2⟩ | ⟨-, rfl, rfl, h1, h2⟩
  · have a : sgn N T p = (60 : Int32) := (sg 60 (by decide)).mpr h1
    have b : ¬ sgn N T p = (61 : Int32) := fun q => by have := (sg 61 (by decide)).mp q; omega
    have d : ¬ sgn N T (p + 1) = (61 : Int32) := fun q => h2 (y8.mp q)
    simp only [u_nn, if_pos a, hp, hcn, u_ob, hp6, nI_1, if_neg b, sg8, u_cw, if_neg d, if_true, hp8, z0]
  · have a : sgn N T p = (60 : Int32) := (sg 60 (by decide)).mpr h1
    have b : ¬ sgn N T p = (61 : Int32) := fun q => by have := (sg 61 (by decide)).mp q; omega
    have d : sgn N T (p + 1) = (61 : Int32) := y8.mpr h2
    simp only [u_nn, if_pos a, hp, hcn, u_ob, hp6, nI_1, if_neg b, sg8, u_cw, if_pos d, if_neg n10, hp8, z1]
  · have a : ¬ sgn N T p = (60 : Int32) := fun q => by have := (sg 60 (by decide)).mp q; omega
    have b : sgn N T p = (61 : Int32) := (sg 61 (by decide)).mpr h1
    simp only [u_nn, if_neg a, if_pos b, hp, hcn, u_ob, hp6, nI_1, if_true, hp8, z0]
  · have a : ¬ sgn N T p = (60 : Int32) := fun q => by have := (sg 60 (by decide)).mp q; omega
    have b : ¬ sgn N T p = (61 : Int32) := fun q => by have := (sg 61 (by decide)).mp q; omega
    have e : sgn N T p = (62 : Int32) := (sg 62 (by decide)).mpr h1
    have d : sgn N T (p + 1) = (61 : Int32) := y8.mpr h2
    simp only [u_nn, if_neg a, if_neg b, if_pos e, hp, hcn, u_ob, hp6, nI_1, sg8, u_cw, if_pos d, if_neg n10, hp8, z1]
  · have a : ¬ sgn N T p = (60 : Int32) := fun q => by have := (sg 60 (by decide)).mp q; omega
    have b : ¬ sgn N T p = (61 : Int32) := fun q => by have := (sg 61 (by decide)).mp q; omega
    have e : sgn N T p = (62 : Int32) := (sg 62 (by decide)).mpr h1
    have d : ¬ sgn N T (p + 1) = (61 : Int32) := fun q => h2 (y8.mp q)
    simp only [u_nn, if_neg a, if_neg b, if_pos e, hp, hcn, u_ob, hp6, nI_1, sg8, u_cw, if_neg d, if_true, hp8, z0]
theorem cmpR_no (hsum : p_X12_sum G w0 = some w) (hT : TxW N T w) (hp : w.1 0 33 = nI p) (h9 : p ≤ 900) (h : ¬ (p < N ∧ (T p = 60 ∨ T p = 61 ∨ T p = 62))) : p_X12_compared G w0 = ob (p_X12_fails G (0 : Int32) (nI p) w) fun w27 => some w27 := by
  have sg : ∀ d : Nat, d = 60 ∨ d = 61 ∨ d = 62 → ¬ sgn N T p = nI d := fun d hd q => by
    have := (sgn_eq hT (c := d) (by omega)).mp q
    exact h ⟨this.1, by omega⟩
  have a : ¬ sgn N T p = (60 : Int32) := sg 60 (by omega)
  have b : ¬ sgn N T p = (61 : Int32) := sg 61 (by omega)
  have e : ¬ sgn N T p = (62 : Int32) := sg 62 (by omega)
  unfold p_X12_compared
  rw [hsum, u_ob, p_sign' hT hp h9, u_cw]
  simp only [u_nn, if_neg a, if_neg b, if_neg e, hp]
/-- the class after the first sum -/
def CjJ (G : GG) (x : Int32) (h : MS) : Option MS := if (h.1 0 9) = 0 then (ob (s_X8_advance G h) fun w6 => ob (s_X3_readSum G w6) fun w8 => ob (s_X3_write G (-x) w8) fun w10 => some w10) else some h
theorem cmpC {x : Int32} (hsum : s_X3_readSum G wr = some wr1) (e7 : wr1.1 0 7 = x) : s_X3_readComparison G wr = if x = 60 ∨ x = 259 ∨ x = 61 ∨ x = 260 ∨ x = 62 then (if ((w_si wr1 6 3 ((wr1.1 6 3) + 1)).1 6 3) ≤ (60 : Int32) then CjJ G x (w_si wr1 6 3 ((wr1.1 6 3) + 1)) else ob (s_X8_fail G (3 : Int32) (w_si wr1 6 3 ((wr1.1 6 3) + 1))) fun w13 => CjJ G x w13) else ob (s_X8_fail G (0 : Int32) (w_si wr1 6 3 ((wr1.1 6 3) + 1))) fun w20 => CjJ G x w20 := by
  unfold s_X3_readComparison CjJ
  rw [hsum, u_ob, u_nn, e7]
  by_cases a : x = 60
  · simp only [u_nn, if_pos a, if_pos (Or.inl a : x = 60 ∨ x = 259 ∨ x = 61 ∨ x = 260 ∨ x = 62)]
  · by_cases b : x = 259
    · simp only [u_nn, if_neg a, if_pos b, if_pos (Or.inr (Or.inl b) : x = 60 ∨ x = 259 ∨ x = 61 ∨ x = 260 ∨ x = 62)]
    · by_cases d : x = 61
      · simp only [u_nn, if_neg a, if_neg b, if_pos d, if_pos (Or.inr (Or.inr (Or.inl d)) : x = 60 ∨ x = 259 ∨ x = 61 ∨ x = 260 ∨ x = 62)]
      · by_cases e : x = 260
        · simp only [u_nn, if_neg a, if_neg b, if_neg d, if_pos e, if_pos (Or.inr (Or.inr (Or.inr (Or.inl e))) : x = 60 ∨ x = 259 ∨ x = 61 ∨ x = 260 ∨ x = 62)]
        · by_cases g : x = 62
          · simp only [u_nn, if_neg a, if_neg b, if_neg d, if_neg e, if_pos g, if_pos (Or.inr (Or.inr (Or.inr (Or.inr g))) : x = 60 ∨ x = 259 ∨ x = 61 ∨ x = 260 ∨ x = 62)]
          · have n : ¬ (x = 60 ∨ x = 259 ∨ x = 61 ∨ x = 260 ∨ x = 62) := fun q => by
              rcases q with q | q | q | q | q
              · exact a q
              · exact b q
              · exact d q
              · exact e q
              · exact g q
            simp only [u_nn, if_neg a, if_neg b, if_neg d, if_neg e, if_neg g, if_neg n]
end
