/-! The reference, its memory as rows of numbers by the number of the field: w.1 k i the i-th of the row in field k, w.1 0 k the number in field k, w.2 the longs (by a program of ours). -/
def mofs (k : Nat) : Nat := ([0, 1, 2, 3, 4, 5, 6, 7, 8, 9, 10, 11, 12, 13, 14, 15, 16, 17, 18, 19, 20, 21, 22, 23, 24, 25, 26, 27, 28, 29, 30, 31, 0, 0, 0, 0, 0, 0, 0, 0, 0, 0, 32, 33, 34, 35, 36, 37, 38, 39, 40, 41, 42, 43, 44, 0, 0, 0, 45, 46, 47, 48, 0, 0, 0, 49, 50, 51, 52, 53, 54, 55, 56, 57, 58, 0, 0, 0, 0, 59, 60, 61, 62, 0, 0] : List Nat).getD k 0
def mso (o : Nat) : Nat := ([0, 1, 2, 3, 4, 5, 6, 7, 8, 9, 10, 11, 12, 13, 14, 15, 16, 17, 18, 19, 20, 21, 22, 23, 24, 25, 26, 27, 28, 29, 30, 31, 42, 43, 44, 45, 46, 47, 48, 49, 50, 51, 52, 53, 54, 58, 59, 60, 61, 65, 66, 67, 68, 69, 70, 71, 72, 73, 74, 79, 80, 81, 82] : List Nat).getD o 0
def mln (k : Nat) : Nat := ([0, 17, 7, 8, 8, 8, 8, 8, 8, 8, 8, 8, 8, 5, 5, 5, 5, 5, 10, 10, 10, 8, 8, 8, 8, 8, 8, 5, 5, 5, 5, 5, 0, 0, 0, 0, 0, 0, 0, 0, 0, 0, 400, 1800, 1800, 6, 72, 72, 72, 402, 13, 300, 6, 1020, 1, 0, 0, 0, 8, 8, 256, 8, 0, 0, 0, 9150, 1464, 144, 24, 24, 24, 8, 81, 7, 7, 0, 0, 0, 0, 1464, 24, 6250, 4, 0, 0] : List Nat).getD k 0
def mty (k : Nat) : FieldType := ([.int, .int, .int, .int, .int, .int, .int, .int, .int, .int, .int, .int, .int, .int, .int, .int, .int, .int, .int, .int, .int, .int, .int, .int, .int, .int, .int, .int, .int, .int, .int, .int, .int, .int, .int, .int, .int, .int, .int, .int, .int, .int, .byte, .int, .int, .int, .int, .int, .int, .int, .long, .long, .int, .int, .int, .int, .int, .int, .int, .int, .int, .int, .int, .int, .int, .int, .int, .int, .int, .int, .int, .int, .int, .int, .int, .int, .int, .int, .int, .int, .boolean, .int, .boolean, .int, .int] : List FieldType).getD k .int
def mrk (k : Nat) : Bool := decide (0 < mofs k)
def mok (k : Nat) : Bool := mrk k && decide (mty k = .int)
theorem mofs_lt : ∀ k, mofs k < 63 := by
  intro k
  by_cases hk : k < 85
  · have : ∀ k, k < 85 → mofs k < 63 := by decide +kernel
    exact this k hk
  · have : mofs k = 0 := by unfold mofs; rw [List.getD_eq_getElem?_getD, List.getElem?_eq_none (by simp only [List.length_cons, List.length_nil]; omega)]; rfl
    omega
theorem mso_ofs : ∀ k, mrk k = true → mso (mofs k) = k := by
  intro k hk
  by_cases h : k < 85
  · have : ∀ k, k < 85 → mrk k = true → mso (mofs k) = k := by decide +kernel
    exact this k h hk
  · have : mofs k = 0 := by unfold mofs; rw [List.getD_eq_getElem?_getD, List.getElem?_eq_none (by simp only [List.length_cons, List.length_nil]; omega)]; rfl
    simp [mrk, this] at hk
theorem mso_inj (a b : Nat) (ha : a < 63) (hb : b < 63) (e : mso a = mso b) : a = b := by
  have : ∀ a, a < 63 → ∀ b, b < 63 → mso a = mso b → a = b := by decide +kernel
  exact this a ha b hb e
def mh (h : AH) (M : Nat) (w : MS) : AH := (h.1, fun a => if M ≤ a ∧ a < M + 63 then w.1 (mso (a - M)) else h.2.1 a, fun a => if M ≤ a ∧ a < M + 63 then w.2 (mso (a - M)) else h.2.2.1 a, h.2.2.2.1, h.2.2.2.2)
def MI (h : AH) (M : Nat) : Prop := m_t h M = .inl 12 ∧ ∀ k, mrk k = true → m_r h M k = some (M + mofs k) ∧ m_t h (M + mofs k) = .inr (mty k, mln k)
def w_sl (w : MS) (k i : Nat) (v : Int64) : MS := (w.1, va_up w.2 k (vp_updL (w.2 k) i v))
theorem mh_t (h : AH) (M : Nat) (w : MS) : m_t (mh h M w) = m_t h := rfl
theorem mh_r (h : AH) (M : Nat) (w : MS) : m_r (mh h M w) = m_r h := rfl
theorem mh_n (h : AH) (M : Nat) (w : MS) : m_n (mh h M w) = m_n h := rfl
theorem mh_i0 (h : AH) (M : Nat) (w : MS) : m_i (mh h M w) M = w.1 0 := by
  show (if M ≤ M ∧ M < M + 63 then w.1 (mso (M - M)) else h.2.1 M) = w.1 0
  rw [if_pos ⟨Nat.le_refl M, by omega⟩, Nat.sub_self]
  rfl
theorem mh_i (h : AH) (M : Nat) (w : MS) {k : Nat} (hk : mrk k = true) : m_i (mh h M w) (M + mofs k) = w.1 k := by
  have h1 := mofs_lt k
  show (if M ≤ M + mofs k ∧ M + mofs k < M + 63 then w.1 (mso (M + mofs k - M)) else h.2.1 (M + mofs k)) = w.1 k
  rw [if_pos ⟨by omega, by omega⟩, Nat.add_sub_cancel_left, mso_ofs k hk]
theorem mh_l (h : AH) (M : Nat) (w : MS) {k : Nat} (hk : mrk k = true) : m_l (mh h M w) (M + mofs k) = w.2 k := by
  have h1 := mofs_lt k
  show (if M ≤ M + mofs k ∧ M + mofs k < M + 63 then w.2 (mso (M + mofs k - M)) else h.2.2.1 (M + mofs k)) = w.2 k
  rw [if_pos ⟨by omega, by omega⟩, Nat.add_sub_cancel_left, mso_ofs k hk]
theorem mh_up {h : AH} {M o k : Nat} {w : MS} {f : Nat → Int32} (ho : o < 63) (hk : mso o = k) : va_up (mh h M w).2.1 (M + o) f = (mh h M (va_up w.1 k f, w.2)).2.1 := by
  funext a
  show (if a = M + o then f else (if M ≤ a ∧ a < M + 63 then w.1 (mso (a - M)) else h.2.1 a)) = (if M ≤ a ∧ a < M + 63 then (if mso (a - M) = k then f else w.1 (mso (a - M))) else h.2.1 a)
  by_cases h1 : M ≤ a ∧ a < M + 63
  · rw [if_pos h1, if_pos h1]
    by_cases h2 : a = M + o
    · rw [if_pos h2, if_pos (by rw [h2, Nat.add_sub_cancel_left, hk])]
    · rw [if_neg h2, if_neg (fun q => h2 (by have := mso_inj (a - M) o (by omega) ho (q.trans hk.symm); omega))]
  · rw [if_neg h1, if_neg h1, if_neg (fun q => h1 ⟨by omega, by omega⟩)]
theorem mh_upl {h : AH} {M o k : Nat} {w : MS} {f : Nat → Int64} (ho : o < 63) (hk : mso o = k) : va_up (mh h M w).2.2.1 (M + o) f = (mh h M (w.1, va_up w.2 k f)).2.2.1 := by
  funext a
  show (if a = M + o then f else (if M ≤ a ∧ a < M + 63 then w.2 (mso (a - M)) else h.2.2.1 a)) = (if M ≤ a ∧ a < M + 63 then (if mso (a - M) = k then f else w.2 (mso (a - M))) else h.2.2.1 a)
  by_cases h1 : M ≤ a ∧ a < M + 63
  · rw [if_pos h1, if_pos h1]
    by_cases h2 : a = M + o
    · rw [if_pos h2, if_pos (by rw [h2, Nat.add_sub_cancel_left, hk])]
    · rw [if_neg h2, if_neg (fun q => h2 (by have := mso_inj (a - M) o (by omega) ho (q.trans hk.symm); omega))]
  · rw [if_neg h1, if_neg h1, if_neg (fun q => h1 ⟨by omega, by omega⟩)]
theorem mh_si {h : AH} {M k i : Nat} {w : MS} {v : Int32} (hk : mrk k = true) : m_si (mh h M w) (M + mofs k) i v = mh h M (w_si w k i v) := by
  have e := mh_up (h := h) (M := M) (w := w) (f := upd ((mh h M w).2.1 (M + mofs k)) i v) (mofs_lt k) (mso_ofs k hk)
  have e2 : (mh h M w).2.1 (M + mofs k) = w.1 k := mh_i h M w hk
  show ((mh h M w).1, va_up (mh h M w).2.1 (M + mofs k) (upd ((mh h M w).2.1 (M + mofs k)) i v), (mh h M w).2.2.1, (mh h M w).2.2.2.1, (mh h M w).2.2.2.2) = _
  rw [e, e2]
  rfl
theorem mh_s0 {h : AH} {M i : Nat} {w : MS} {v : Int32} : m_si (mh h M w) M i v = mh h M (w_si w 0 i v) := by
  have e := mh_up (h := h) (M := M) (o := 0) (k := 0) (w := w) (f := upd ((mh h M w).2.1 M) i v) (by omega) rfl
  have e2 : (mh h M w).2.1 M = w.1 0 := mh_i0 h M w
  show ((mh h M w).1, va_up (mh h M w).2.1 (M + 0) (upd ((mh h M w).2.1 M) i v), (mh h M w).2.2.1, (mh h M w).2.2.2.1, (mh h M w).2.2.2.2) = _
  rw [e, e2]
  rfl
theorem mh_sl {h : AH} {M k i : Nat} {w : MS} {v : Int64} (hk : mrk k = true) : m_sl (mh h M w) (M + mofs k) i v = mh h M (w_sl w k i v) := by
  have e := mh_upl (h := h) (M := M) (w := w) (f := vp_updL ((mh h M w).2.2.1 (M + mofs k)) i v) (mofs_lt k) (mso_ofs k hk)
  have e2 : (mh h M w).2.2.1 (M + mofs k) = w.2 k := mh_l h M w hk
  show ((mh h M w).1, (mh h M w).2.1, va_up (mh h M w).2.2.1 (M + mofs k) (vp_updL ((mh h M w).2.2.1 (M + mofs k)) i v), (mh h M w).2.2.2.1, (mh h M w).2.2.2.2) = _
  rw [e, e2]
  rfl
section EEM
variable {G : GG} {p : Program} {l : Launch} {e : Env} {R : Room} {s : State} {m : MethodId} {args : Array Value} {below : List Frame} {meth : Method} {c : Code} {z : Option Value × AH} {mc ms pc ce sl : Nat} {lv : List (Nat × Value)} {st : List Value} {h : AH} {cc : ByteArray} {M : Nat} {w : MS}
theorem q_hp {w2 : MS} (e1 : w2 = w) (k : EE G p l e R s m args below meth c z mc ms pc lv st (mh h M w2) ce sl) : EE G p l e R s m args below meth c z mc ms pc lv st (mh h M w) ce sl := e1 ▸ k
theorem q_geti {i : Nat} (k : Nat) (hI : MI h M) (C : Cx G cc RX12 p s m args meth c) (d : decode cc pc = .ok (.getfield i, 3)) (hk : k < k_N 12) (hlink : Cond.fieldLink RX12 i (k_T 12 k).1 (k_T 12 k).2.1 (k_T 12 k).2.2.1 ∈ gt) (hv : m_fv (k_ty 12 k) (mh h M w) M k = .int (m_i (mh h M w) M k)) (kk : EE G p l e R s m args below meth c z mc ms (pc + 3) lv (.int (w.1 0 k) :: st) (mh h M w) ce sl) : EE G p l e R s m args below meth c z mc ms pc lv (.ref M :: st) (mh h M w) ce sl :=
  e_geti 12 k C d (by decide) hk hlink hv hI.1 (by rw [mh_i0]; exact kk)
theorem q_getr {i : Nat} (k : Nat) (hI : MI h M) (C : Cx G cc RX12 p s m args meth c) (d : decode cc pc = .ok (.getfield i, 3)) (hk : k < k_N 12) (hlink : Cond.fieldLink RX12 i (k_T 12 k).1 (k_T 12 k).2.1 (k_T 12 k).2.2.1 ∈ gt) (hv : m_fv (k_ty 12 k) (mh h M w) M k = va_rf (m_r (mh h M w) M k)) (hr : mrk k = true) (kk : EE G p l e R s m args below meth c z mc ms (pc + 3) lv (.ref (M + mofs k) :: st) (mh h M w) ce sl) : EE G p l e R s m args below meth c z mc ms pc lv (.ref M :: st) (mh h M w) ce sl :=
  e_getr 12 k C d (by decide) hk hlink hv hI.1 (e_rf (hI.2 k hr).1 kk)
theorem q_puti {i : Nat} {x : Int32} (k : Nat) (hI : MI h M) (C : Cx G cc RX12 p s m args meth c) (d : decode cc pc = .ok (.putfield i, 3)) (hk : k < k_N 12) (hlink : Cond.fieldLink RX12 i (k_T 12 k).1 (k_T 12 k).2.1 (k_T 12 k).2.2.1 ∈ gt) (hfin : (k_T 12 k).2.2.2 = false) (hty : m_fv (k_ty 12 k) (m_si (mh h M w) M k x) M k = .int (m_i (m_si (mh h M w) M k x) M k)) (hfit : fits (k_ty 12 k) (.int x) = true) (hnw : narrow (k_ty 12 k) (.int x) = .int x) (kk : EE G p l e R s m args below meth c z mc ms (pc + 3) lv st (mh h M (w_si w 0 k x)) ce sl) : EE G p l e R s m args below meth c z mc ms pc lv (.int x :: .ref M :: st) (mh h M w) ce sl :=
  e_puti 12 k C d (by decide) hk hlink hfin hty hfit hnw hI.1 (by rw [mh_s0]; exact kk)
theorem q_iald {i : Int32} {k : Nat} (hI : MI h M) (C : Cx G cc RX12 p s m args meth c) (d : decode cc pc = .ok (.iaload, 1)) (hk : mok k = true) (hin : vp_in i (mln k)) (kk : EE G p l e R s m args below meth c z mc ms (pc + 1) lv (.int (w.1 k i.toNatClampNeg) :: st) (mh h M w) ce sl) : EE G p l e R s m args below meth c z mc ms pc lv (.int i :: .ref (M + mofs k) :: st) (mh h M w) ce sl := by
  have h1 : mrk k = true ∧ mty k = .int := by simpa [mok] using hk
  exact e_iald C d (n := mln k) (by have := (hI.2 k h1.1).2; rw [h1.2] at this; exact this) hin (by rw [mh_i h M w h1.1]; exact kk)
theorem q_iast {i x : Int32} {k : Nat} (hI : MI h M) (C : Cx G cc RX12 p s m args meth c) (d : decode cc pc = .ok (.iastore, 1)) (hk : mok k = true) (hin : vp_in i (mln k)) (kk : EE G p l e R s m args below meth c z mc ms (pc + 1) lv st (mh h M (w_si w k i.toNatClampNeg x)) ce sl) : EE G p l e R s m args below meth c z mc ms pc lv (.int x :: .int i :: .ref (M + mofs k) :: st) (mh h M w) ce sl := by
  have h1 : mrk k = true ∧ mty k = .int := by simpa [mok] using hk
  exact e_iast C d (n := mln k) (by have := (hI.2 k h1.1).2; rw [h1.2] at this; exact this) hin (by rw [mh_si h1.1]; exact kk)
theorem q_bald {i : Int32} {k : Nat} (hI : MI h M) (C : Cx G cc RX12 p s m args meth c) (d : decode cc pc = .ok (.baload, 1)) (hk : mrk k = true) (ht : mty k = .byte) (hin : vp_in i (mln k)) (kk : EE G p l e R s m args below meth c z mc ms (pc + 1) lv (.int (w.1 k i.toNatClampNeg) :: st) (mh h M w) ce sl) : EE G p l e R s m args below meth c z mc ms pc lv (.int i :: .ref (M + mofs k) :: st) (mh h M w) ce sl :=
  e_bald C d (n := mln k) (by have := (hI.2 k hk).2; rw [ht] at this; exact this) hin (by rw [mh_i h M w hk]; exact kk)
theorem q_zald {i : Int32} {k : Nat} (hI : MI h M) (C : Cx G cc RX12 p s m args meth c) (d : decode cc pc = .ok (.baload, 1)) (hk : mrk k = true) (ht : mty k = .boolean) (hin : vp_in i (mln k)) (kk : EE G p l e R s m args below meth c z mc ms (pc + 1) lv (.int (w.1 k i.toNatClampNeg) :: st) (mh h M w) ce sl) : EE G p l e R s m args below meth c z mc ms pc lv (.int i :: .ref (M + mofs k) :: st) (mh h M w) ce sl :=
  e_zald C d (n := mln k) (by have := (hI.2 k hk).2; rw [ht] at this; exact this) hin (by rw [mh_i h M w hk]; exact kk)
theorem q_lald {i : Int32} {k : Nat} (hI : MI h M) (C : Cx G cc RX12 p s m args meth c) (d : decode cc pc = .ok (.laload, 1)) (hk : mrk k = true) (ht : mty k = .long) (hin : vp_in i (mln k)) (kk : EE G p l e R s m args below meth c z mc ms (pc + 1) lv (.long (w.2 k i.toNatClampNeg) :: st) (mh h M w) ce sl) : EE G p l e R s m args below meth c z mc ms pc lv (.int i :: .ref (M + mofs k) :: st) (mh h M w) ce sl :=
  e_lald C d (n := mln k) (by have := (hI.2 k hk).2; rw [ht] at this; exact this) hin (by rw [mh_l h M w hk]; exact kk)
theorem q_bast {i x : Int32} {k : Nat} (hI : MI h M) (C : Cx G cc RX12 p s m args meth c) (d : decode cc pc = .ok (.bastore, 1)) (hk : mrk k = true) (ht : mty k = .byte) (hin : vp_in i (mln k)) (kk : EE G p l e R s m args below meth c z mc ms (pc + 1) lv st (mh h M (w_si w k i.toNatClampNeg x.toInt8.toInt32)) ce sl) : EE G p l e R s m args below meth c z mc ms pc lv (.int x :: .int i :: .ref (M + mofs k) :: st) (mh h M w) ce sl :=
  e_bast C d (n := mln k) (by have := (hI.2 k hk).2; rw [ht] at this; exact this) hin (by rw [mh_si hk]; exact kk)
theorem q_zast {i x : Int32} {k : Nat} (hI : MI h M) (C : Cx G cc RX12 p s m args meth c) (d : decode cc pc = .ok (.bastore, 1)) (hk : mrk k = true) (ht : mty k = .boolean) (hin : vp_in i (mln k)) (kk : EE G p l e R s m args below meth c z mc ms (pc + 1) lv st (mh h M (w_si w k i.toNatClampNeg (x &&& 1))) ce sl) : EE G p l e R s m args below meth c z mc ms pc lv (.int x :: .int i :: .ref (M + mofs k) :: st) (mh h M w) ce sl :=
  e_zast C d (n := mln k) (by have := (hI.2 k hk).2; rw [ht] at this; exact this) hin (by rw [mh_si hk]; exact kk)
theorem q_last {i : Int32} {x : Int64} {k : Nat} (hI : MI h M) (C : Cx G cc RX12 p s m args meth c) (d : decode cc pc = .ok (.lastore, 1)) (hk : mrk k = true) (ht : mty k = .long) (hin : vp_in i (mln k)) (kk : EE G p l e R s m args below meth c z mc ms (pc + 1) lv st (mh h M (w_sl w k i.toNatClampNeg x)) ce sl) : EE G p l e R s m args below meth c z mc ms pc lv (.long x :: .int i :: .ref (M + mofs k) :: st) (mh h M w) ce sl :=
  e_last C d (n := mln k) (by have := (hI.2 k hk).2; rw [ht] at this; exact this) hin (by rw [mh_sl hk]; exact kk)
theorem q_alen {k : Nat} (hI : MI h M) (C : Cx G cc RX12 p s m args meth c) (d : decode cc pc = .ok (.arraylength, 1)) (hk : mok k = true) (kk : EE G p l e R s m args below meth c z mc ms (pc + 1) lv (.int (nI (mln k)) :: st) (mh h M w) ce sl) : EE G p l e R s m args below meth c z mc ms pc lv (.ref (M + mofs k) :: st) (mh h M w) ce sl := by
  have h1 : mrk k = true ∧ mty k = .int := by simpa [mok] using hk
  exact e_alen 0 rfl C d (by have := (hI.2 k h1.1).2; rw [h1.2] at this; exact this) kk
end EEM
theorem pf_J0_length_8abf5 {G : GG} {v0 M : Nat} {h : AH} {w : MS} {y : Int32 × MS} (hf : p_J0_length_8abf5 G v0 w = some y) : f_J0_length_8abf5 G v0 (mh h M w) = some (y.1, mh h M y.2) := pr_J0_length_8abf5 (mh h M) hf
theorem pf_J0_charAt_5068e {G : GG} {v0 M : Nat} {v1 : Int32} {h : AH} {w : MS} {y : Int32 × MS} (hf : p_J0_charAt_5068e G v0 v1 w = some y) : f_J0_charAt_5068e G v0 v1 (mh h M w) = some (y.1, mh h M y.2) := pr_J0_charAt_5068e (mh h M) hf
