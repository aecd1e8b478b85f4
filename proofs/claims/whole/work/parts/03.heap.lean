/-! The words, the memory and the judgement that all walks stand on. -/
def gt : List Cond := lw_tbl.filter goodWord
theorem gt_at {w : Cond} (i : Nat) (h : lw_tbl[i]? = some w) (g : goodWord w = true) : w ∈ gt := List.mem_filter.mpr ⟨List.mem_of_getElem? h, g⟩
theorem gt_ok {args : Array Value} {s : State} (h : ∀ w ∈ lw_tbl, w.before args s = true) : ∀ w ∈ gt, w.before args s = true := fun w hw => h w (List.mem_filter.mp hw).1
def gw (y : MethodName) (b : ByteArray) (n : Nat) (r : Option FieldType) : List Cond := Cond.code y b n r :: gt
theorem gw_good {y : MethodName} {b : ByteArray} {n : Nat} {r : Option FieldType} (h : Cond.code y b n r ∈ gt) : GoodIn gt (gw y b n r) := by
  intro w hw
  have h1 : w ∈ gt := by
    rcases List.mem_cons.mp hw with e | e
    · rw [e]; exact h
    · exact e
  exact ⟨h1, good_of_word (List.mem_filter.mp h1).2⟩
/-- number of fields, their types, their table, by the class's number -/
def k_N : Nat → Nat := fun c => match c with
  | 0 => 10 | 1 => 4 | 2 => 7 | 3 => 4 | 4 => 9 | 5 => 7 | 6 => 7 | 7 => 7 | 8 => 10 | 9 => 14 | 10 => 2 | 11 => 13 | 12 => 85 | _ => 0
def k_ty : Nat → Nat → FieldType := fun c => match c with
  | 0 => tyX0 | 1 => tyX1 | 2 => tyX2 | 3 => tyX3 | 4 => tyX4 | 5 => tyX5 | 6 => tyX6 | 7 => tyX7 | 8 => tyX8 | 9 => tyX9 | 10 => tyX10 | 11 => tyX11 | _ => tyX12
def k_T : Nat → u_T := fun c => match c with
  | 0 => TX0 | 1 => TX1 | 2 => TX2 | 3 => TX3 | 4 => TX4 | 5 => TX5 | 6 => TX6 | 7 => TX7 | 8 => TX8 | 9 => TX9 | 10 => TX10 | 11 => TX11 | _ => TX12
def k_R : Nat → String := fun c => match c with
  | 0 => RX0 | 1 => RX1 | 2 => RX2 | 3 => RX3 | 4 => RX4 | 5 => RX5 | 6 => RX6 | 7 => RX7 | 8 => RX8 | 9 => RX9 | 10 => RX10 | 11 => RX11 | _ => RX12
theorem k_cl : ∀ c, c < 13 → vwCl[c]? = some (k_R c, k_T c, k_N c) := by
  intro c hc
  match c, hc with
  | 0, _ => rfl
  | 1, _ => rfl
  | 2, _ => rfl
  | 3, _ => rfl
  | 4, _ => rfl
  | 5, _ => rfl
  | 6, _ => rfl
  | 7, _ => rfl
  | 8, _ => rfl
  | 9, _ => rfl
  | 10, _ => rfl
  | 11, _ => rfl
  | 12, _ => rfl
theorem k_tyok : ∀ c, c < 13 → ∀ k, k < k_N c → parseFieldDescriptor (k_T c k).2.2.1 = some (k_ty c k) := by
  intro c hc
  match c, hc with
  | 0, _ => exact tyX0_ok
  | 1, _ => exact tyX1_ok
  | 2, _ => exact tyX2_ok
  | 3, _ => exact tyX3_ok
  | 4, _ => exact tyX4_ok
  | 5, _ => exact tyX5_ok
  | 6, _ => exact tyX6_ok
  | 7, _ => exact tyX7_ok
  | 8, _ => exact tyX8_ok
  | 9, _ => exact tyX9_ok
  | 10, _ => exact tyX10_ok
  | 11, _ => exact tyX11_ok
  | 12, _ => exact tyX12_ok
theorem k_nm : ∀ c, c < 13 → ∀ a, a < k_N c → ∀ b, b < k_N c → a ≠ b → (k_T c a).2.1 ≠ (k_T c b).2.1 := by
  intro c hc
  match c, hc with
  | 0, _ => exact nmX0
  | 1, _ => exact nmX1
  | 2, _ => exact nmX2
  | 3, _ => exact nmX3
  | 4, _ => exact nmX4
  | 5, _ => exact nmX5
  | 6, _ => exact nmX6
  | 7, _ => exact nmX7
  | 8, _ => exact nmX8
  | 9, _ => exact nmX9
  | 10, _ => exact nmX10
  | 11, _ => exact nmX11
  | 12, _ => exact nmX12
/-- the memory: what stands at an address (an object's class, or an array's type and length), its ints, longs and references, and the next address -/
abbrev AH : Type := (Nat → Nat ⊕ (FieldType × Nat)) × (Nat → Nat → Int32) × (Nat → Nat → Int64) × (Nat → Nat → Option Nat) × Nat
def m_t (h : AH) : Nat → Nat ⊕ (FieldType × Nat) := h.1
def m_i (h : AH) : Nat → Nat → Int32 := h.2.1
def m_l (h : AH) : Nat → Nat → Int64 := h.2.2.1
def m_r (h : AH) : Nat → Nat → Option Nat := h.2.2.2.1
def m_n (h : AH) : Nat := h.2.2.2.2
def m_si (h : AH) (a k : Nat) (v : Int32) : AH := (h.1, va_up h.2.1 a (upd (h.2.1 a) k v), h.2.2.1, h.2.2.2.1, h.2.2.2.2)
def m_sl (h : AH) (a k : Nat) (v : Int64) : AH := (h.1, h.2.1, va_up h.2.2.1 a (vp_updL (h.2.2.1 a) k v), h.2.2.2.1, h.2.2.2.2)
def m_sr (h : AH) (a k : Nat) (v : Option Nat) : AH := (h.1, h.2.1, h.2.2.1, va_up h.2.2.2.1 a (va_up (h.2.2.2.1 a) k v), h.2.2.2.2)
def m_sa (h : AH) (a : Nat) (f : Nat → Int32) : AH := (h.1, va_up h.2.1 a f, h.2.2.1, h.2.2.2.1, h.2.2.2.2)
def m_new (h : AH) (t : Nat ⊕ (FieldType × Nat)) : AH := (va_up h.1 h.2.2.2.2 t, va_up h.2.1 h.2.2.2.2 (fun _ => 0), va_up h.2.2.1 h.2.2.2.2 (fun _ => 0), va_up h.2.2.2.1 h.2.2.2.2 (fun _ => none), h.2.2.2.2 + 1)
def m_fv (t : FieldType) (h : AH) (a k : Nat) : Value := match t with
  | .int => .int (m_i h a k)
  | .boolean => .int (m_i h a k)
  | .object _ => va_rf (m_r h a k)
  | .array _ => va_rf (m_r h a k)
  | .long => .long (m_l h a k)
  | t => defaultValue t
def m_av (t : FieldType) (h : AH) (a : Nat) : (Nat → Int32) ⊕ (Nat → Int64) ⊕ (Nat → UInt32) ⊕ (Nat → UInt64) ⊕ (Nat → Option Nat) := match t with
  | .long => .inr (.inl (m_l h a))
  | .object _ => .inr (.inr (.inr (.inr (m_r h a))))
  | _ => .inl (m_i h a)
def m_e (ac : FieldType → ClassId) (h : AH) (a : Nat) : va_E := match m_t h a with
  | .inl c => .inr (c, (List.range (k_N c)).map (fun k => m_fv (k_ty c k) h a k))
  | .inr (t, n) => .inl (ac t, n, m_av t h a)
/-- base address, classes' numbers and slots, arrays' classes, addresses of the String constants and of their bytes -/
abbrev GG : Type := Nat × va_G × (FieldType → ClassId) × (Nat → Nat) × (Nat → Nat)
def m_R (G : GG) (h : AH) (H : Heap) : Prop := H.size = m_n h ∧ G.1 ≤ m_n h ∧ (∀ a : Nat, G.1 ≤ a → a < m_n h → va_at G.2.1 vwCl (a, m_e G.2.2.1 h a) H) ∧ ∀ a : Nat, ¬ (G.1 ≤ a ∧ a < m_n h) → m_t h a = .inl 99
theorem m_R.put {G : GG} {h h' : AH} {H H1 : Heap} (hR : m_R G h H) {a : Nat} (hn : m_n h' = m_n h) (ht : m_t h' = m_t h) (he : ∀ b, b ≠ a → m_e G.2.2.1 h' b = m_e G.2.2.1 h b) (z : H1.size = H.size) (oq : ∀ q, q ≠ a → H1[q]? = H[q]?) (ha : va_at G.2.1 vwCl (a, m_e G.2.2.1 h' a) H1) : m_R G h' H1 := by
  refine ⟨by rw [z, hn]; exact hR.1, by rw [hn]; exact hR.2.1, fun b h1 h2 => ?_, fun b hb => by rw [ht]; exact hR.2.2.2 b (by rw [← hn]; exact hb)⟩
  by_cases hb : b = a
  · subst hb; exact ha
  · rw [he b hb]
    exact va_at.kept (hR.2.2.1 b h1 (by rw [← hn]; exact h2)) (oq b hb)
theorem m_R.push {G : GG} {h h' : AH} {H H1 : Heap} (hR : m_R G h H) (hn : m_n h' = m_n h + 1) (ht : ∀ b, b ≠ m_n h → m_t h' b = m_t h b) (he : ∀ b, b ≠ m_n h → m_e G.2.2.1 h' b = m_e G.2.2.1 h b) (z : H1.size = H.size + 1) (oq : ∀ q, q < H.size → H1[q]? = H[q]?) (ha : va_at G.2.1 vwCl (m_n h, m_e G.2.2.1 h' (m_n h)) H1) : m_R G h' H1 := by
  have h2 := hR.2.1
  refine ⟨by rw [z, hn, hR.1], by rw [hn]; omega, fun b h1 h2 => ?_, fun b hb => ?_⟩
  · by_cases hb : b = m_n h
    · subst hb; exact ha
    · rw [he b hb]
      have hlt : b < m_n h := by omega
      exact va_at.kept (hR.2.2.1 b h1 hlt) (oq b (by rw [hR.1]; exact hlt))
  · rw [ht b (fun q => hb ⟨by omega, by omega⟩)]
    exact hR.2.2.2 b (fun q => hb ⟨q.1, by omega⟩)
theorem m_R.lt {G : GG} {h : AH} {H : Heap} (hR : m_R G h H) {a : Nat} (ht : m_t h a ≠ .inl 99) : G.1 ≤ a ∧ a < m_n h := Classical.byContradiction fun q => ht (hR.2.2.2 a q)
theorem m_e_si {ac : FieldType → ClassId} {h : AH} {a k : Nat} {v : Int32} {b : Nat} (hb : b ≠ a) : m_e ac (m_si h a k v) b = m_e ac h b := by
  simp [m_e, m_si, m_t, m_i, m_l, m_r, m_fv, m_av, va_up, hb]
theorem m_e_sl {ac : FieldType → ClassId} {h : AH} {a k : Nat} {v : Int64} {b : Nat} (hb : b ≠ a) : m_e ac (m_sl h a k v) b = m_e ac h b := by
  simp [m_e, m_sl, m_t, m_i, m_l, m_r, m_fv, m_av, va_up, hb]
theorem m_e_sr {ac : FieldType → ClassId} {h : AH} {a k : Nat} {v : Option Nat} {b : Nat} (hb : b ≠ a) : m_e ac (m_sr h a k v) b = m_e ac h b := by
  simp [m_e, m_sr, m_t, m_i, m_l, m_r, m_fv, m_av, va_up, hb]
theorem m_e_sa {ac : FieldType → ClassId} {h : AH} {a : Nat} {f : Nat → Int32} {b : Nat} (hb : b ≠ a) : m_e ac (m_sa h a f) b = m_e ac h b := by
  simp [m_e, m_sa, m_t, m_i, m_l, m_r, m_fv, m_av, va_up, hb]
theorem m_e_new {ac : FieldType → ClassId} {h : AH} {t : Nat ⊕ (FieldType × Nat)} {b : Nat} (hb : b ≠ m_n h) : m_e ac (m_new h t) b = m_e ac h b := by
  have hb' : b ≠ h.2.2.2.2 := hb
  simp [m_e, m_new, m_t, m_i, m_l, m_r, m_fv, m_av, va_up, hb']
theorem m_e_o {ac : FieldType → ClassId} {h : AH} {a c : Nat} (ht : m_t h a = .inl c) : m_e ac h a = .inr (c, (List.range (k_N c)).map (fun k => m_fv (k_ty c k) h a k)) := by
  simp [m_e, ht]
theorem m_e_a {ac : FieldType → ClassId} {h : AH} {a n : Nat} {t : FieldType} (ht : m_t h a = .inr (t, n)) : m_e ac h a = .inl (ac t, n, m_av t h a) := by
  simp [m_e, ht]
theorem m_R.obj {G : GG} {h : AH} {H : Heap} (hR : m_R G h H) {a c : Nat} (hc : c < 13) (ht : m_t h a = .inl c) : G.1 ≤ a ∧ a < m_n h ∧ va_at G.2.1 vwCl (a, .inr (c, (List.range (k_N c)).map (fun k => m_fv (k_ty c k) h a k))) H := by
  have h1 := hR.lt (a := a) (by rw [ht]; intro q; cases q; omega)
  have h2 := hR.2.2.1 a h1.1 h1.2
  rw [m_e_o ht] at h2
  exact ⟨h1.1, h1.2, h2⟩
theorem m_R.arr {G : GG} {h : AH} {H : Heap} (hR : m_R G h H) {a n : Nat} {t : FieldType} (ht : m_t h a = .inr (t, n)) : G.1 ≤ a ∧ a < m_n h ∧ va_at G.2.1 vwCl (a, .inl (G.2.2.1 t, n, m_av t h a)) H := by
  have h1 := hR.lt (a := a) (by rw [ht]; intro q; cases q)
  have h2 := hR.2.2.1 a h1.1 h1.2
  rw [m_e_a ht] at h2
  exact ⟨h1.1, h1.2, h2⟩
theorem m_P1 {G : GG} {H : Heap} {q : Nat × va_E} (h : va_at G.2.1 vwCl q H) : va_P G.2.1 vwCl [q] H := by
  intro k x hx
  match k, hx with
  | 0, hx => cases hx; exact h
  | k + 1, hx => simp at hx
theorem m_fv_si {t : FieldType} {h : AH} {a k j : Nat} {x : Int32} (hj : j ≠ k) : m_fv t (m_si h a k x) a j = m_fv t h a j := by
  cases t <;> simp [m_fv, m_si, m_i, m_l, m_r, va_up, upd, hj]
theorem m_fv_sr {t : FieldType} {h : AH} {a k j : Nat} {x : Option Nat} (hj : j ≠ k) : m_fv t (m_sr h a k x) a j = m_fv t h a j := by
  cases t <;> simp [m_fv, m_sr, m_i, m_l, m_r, va_up, hj]
theorem m_fv_new {t : FieldType} {h : AH} {q : Nat ⊕ (FieldType × Nat)} {j : Nat} : m_fv t (m_new h q) (m_n h) j = defaultValue t := by
  cases t <;> simp [m_fv, m_new, m_i, m_l, m_r, m_n, va_up, va_rf, defaultValue]
theorem m_V {N j : Nat} {f : Nat → Value} (hj : j < N) : vp_V ((List.range N).map f) j = f j := by
  simp [vp_V, List.getD, hj]
theorem k_ws0 : ∀ w ∈ u_ws RX0 TX0 10, w ∈ gt := by decide +kernel
theorem k_ws1 : ∀ w ∈ u_ws RX1 TX1 4, w ∈ gt := by decide +kernel
theorem k_ws2 : ∀ w ∈ u_ws RX2 TX2 7, w ∈ gt := by decide +kernel
theorem k_ws3 : ∀ w ∈ u_ws RX3 TX3 4, w ∈ gt := by decide +kernel
theorem k_ws4 : ∀ w ∈ u_ws RX4 TX4 9, w ∈ gt := by decide +kernel
theorem k_ws5 : ∀ w ∈ u_ws RX5 TX5 7, w ∈ gt := by decide +kernel
theorem k_ws6 : ∀ w ∈ u_ws RX6 TX6 7, w ∈ gt := by decide +kernel
theorem k_ws7 : ∀ w ∈ u_ws RX7 TX7 7, w ∈ gt := by decide +kernel
theorem k_ws8 : ∀ w ∈ u_ws RX8 TX8 10, w ∈ gt := by decide +kernel
theorem k_ws9 : ∀ w ∈ u_ws RX9 TX9 14, w ∈ gt := by decide +kernel
theorem k_ws10 : ∀ w ∈ u_ws RX10 TX10 2, w ∈ gt := by decide +kernel
theorem k_ws11 : ∀ w ∈ u_ws RX11 TX11 13, w ∈ gt := by decide +kernel
theorem k_ws12 : ∀ w ∈ u_ws RX12 TX12 85, w ∈ gt := by decide +kernel
theorem k_ws : ∀ c, c < 13 → ∀ w ∈ u_ws (k_R c) (k_T c) (k_N c), w ∈ gt := by
  intro c hc
  match c, hc with
  | 0, _ => exact k_ws0
  | 1, _ => exact k_ws1
  | 2, _ => exact k_ws2
  | 3, _ => exact k_ws3
  | 4, _ => exact k_ws4
  | 5, _ => exact k_ws5
  | 6, _ => exact k_ws6
  | 7, _ => exact k_ws7
  | 8, _ => exact k_ws8
  | 9, _ => exact k_ws9
  | 10, _ => exact k_ws10
  | 11, _ => exact k_ws11
  | 12, _ => exact k_ws12
