/-! The tape and its readers, their memory as rows: w.1 o k the k-th number of the cell T + o (0 the tape, 1 bytes, 2 symbols, 3 starts, 4 numbers, 5 the train's reader, 6 the rules' reader, 7 its code). -/
abbrev MS : Type := (Nat → Nat → Int32) × (Nat → Nat → Int64)
def w_si (w : MS) (k i : Nat) (v : Int32) : MS := (va_up w.1 k (upd (w.1 k) i v), w.2)
def rT : List (Nat × (Nat ⊕ (FieldType × Nat))) := [(0, .inl 8), (1, .inr (.byte, 400)), (2, .inr (.int, 401)), (3, .inr (.int, 401)), (4, .inr (.int, 401)), (5, .inl 10), (6, .inl 3), (7, .inr (.int, 400))]
theorem rT0 : (0, .inl 8) ∈ rT := List.mem_of_getElem? (i := 0) rfl
theorem rT1 : (1, .inr (.byte, 400)) ∈ rT := List.mem_of_getElem? (i := 1) rfl
theorem rT2 : (2, .inr (.int, 401)) ∈ rT := List.mem_of_getElem? (i := 2) rfl
theorem rT3 : (3, .inr (.int, 401)) ∈ rT := List.mem_of_getElem? (i := 3) rfl
theorem rT4 : (4, .inr (.int, 401)) ∈ rT := List.mem_of_getElem? (i := 4) rfl
theorem rT5 : (5, .inl 10) ∈ rT := List.mem_of_getElem? (i := 5) rfl
theorem rT6 : (6, .inl 3) ∈ rT := List.mem_of_getElem? (i := 6) rfl
theorem rT7 : (7, .inr (.int, 400)) ∈ rT := List.mem_of_getElem? (i := 7) rfl
def rR : List (Nat × Nat × Nat) := [(0, 0, 1), (0, 2, 2), (0, 3, 3), (0, 4, 4), (5, 0, 0), (6, 0, 0), (6, 1, 7)]
def RI (h : AH) (T : Nat) : Prop := (∀ q ∈ rT, m_t h (T + q.1) = q.2) ∧ ∀ q ∈ rR, m_r h (T + q.1) q.2.1 = some (T + q.2.2)
def rh (h : AH) (T : Nat) (w : MS) : AH := (h.1, fun a => if T ≤ a ∧ a < T + 8 then w.1 (a - T) else h.2.1 a, h.2.2.1, h.2.2.2.1, h.2.2.2.2)
theorem rh_i (h : AH) (T : Nat) (w : MS) {o : Nat} (ho : o < 8) : m_i (rh h T w) (T + o) = w.1 o := by
  show (if T ≤ T + o ∧ T + o < T + 8 then w.1 (T + o - T) else h.2.1 (T + o)) = w.1 o
  rw [if_pos ⟨by omega, by omega⟩, Nat.add_sub_cancel_left]
theorem rh_si {h : AH} {T o i : Nat} {w : MS} {v : Int32} (ho : o < 8) : m_si (rh h T w) (T + o) i v = rh h T (w_si w o i v) := by
  have e2 : (rh h T w).2.1 (T + o) = w.1 o := rh_i h T w ho
  have e : va_up (rh h T w).2.1 (T + o) (upd (w.1 o) i v) = (rh h T (w_si w o i v)).2.1 := by
    funext a
    show (if a = T + o then upd (w.1 o) i v else (if T ≤ a ∧ a < T + 8 then w.1 (a - T) else h.2.1 a)) = (if T ≤ a ∧ a < T + 8 then (if a - T = o then upd (w.1 o) i v else w.1 (a - T)) else h.2.1 a)
    by_cases h1 : T ≤ a ∧ a < T + 8
    · rw [if_pos h1, if_pos h1]
      by_cases h2 : a = T + o
      · rw [if_pos h2, if_pos (by omega)]
      · rw [if_neg h2, if_neg (by omega)]
    · rw [if_neg h1, if_neg h1, if_neg (fun q => h1 ⟨by omega, by omega⟩)]
  show ((rh h T w).1, va_up (rh h T w).2.1 (T + o) (upd ((rh h T w).2.1 (T + o)) i v), (rh h T w).2.2.1, (rh h T w).2.2.2.1, (rh h T w).2.2.2.2) = _
  rw [e2, e]
  rfl
def ixn (n : Nat) (i : Int32) : Bool := decide (0 ≤ i) && decide (i.toNatClampNeg < n)
theorem ixn_e {n : Nat} {i : Int32} (h : ixn n i = true) : vp_in i n := by
  unfold ixn at h
  simp only [Bool.and_eq_true, decide_eq_true_eq] at h
  intro r
  rcases r with r | r
  · exact absurd h.1 (Int32.not_le.mpr r)
  · omega
def cw {α β : Type} (o : Option (α × MS)) (f : α → MS → Option β) : Option β := match o with
  | none => none
  | some a => f a.1 a.2
theorem cw_e {α β : Type} {o : Option (α × MS)} {f : α → MS → Option β} {y : β} (h : cw o f = some y) : ∃ a h1, o = some (a, h1) ∧ f a h1 = some y := by
  cases o with
  | none => cases h
  | some a => exact ⟨a.1, a.2, rfl, h⟩
def lw0 {ρ : Type} (F : (MS → Option ρ) → MS → Option ρ) : Nat → MS → Option ρ
  | 0, _ => none
  | n + 1, h => F (lw0 F n) h
def lw1 {α ρ : Type} (F : (α → MS → Option ρ) → α → MS → Option ρ) : Nat → α → MS → Option ρ
  | 0, _, _ => none
  | n + 1, a, h => F (lw1 F n) a h
def lw2 {α β ρ : Type} (F : (α → β → MS → Option ρ) → α → β → MS → Option ρ) : Nat → α → β → MS → Option ρ
  | 0, _, _, _ => none
  | n + 1, a, b, h => F (lw2 F n) a b h
def lw3 {α β γ ρ : Type} (F : (α → β → γ → MS → Option ρ) → α → β → γ → MS → Option ρ) : Nat → α → β → γ → MS → Option ρ
  | 0, _, _, _, _ => none
  | n + 1, a, b, c, h => F (lw3 F n) a b c h
def lw4 {α β γ δ ρ : Type} (F : (α → β → γ → δ → MS → Option ρ) → α → β → γ → δ → MS → Option ρ) : Nat → α → β → γ → δ → MS → Option ρ
  | 0, _, _, _, _, _ => none
  | n + 1, a, b, c, d, h => F (lw4 F n) a b c d h
def lw5 {α β γ δ ε ρ : Type} (F : (α → β → γ → δ → ε → MS → Option ρ) → α → β → γ → δ → ε → MS → Option ρ) : Nat → α → β → γ → δ → ε → MS → Option ρ
  | 0, _, _, _, _, _, _ => none
  | n + 1, a, b, c, d, e, h => F (lw5 F n) a b c d e h
def lw6 {α β γ δ ε ζ ρ : Type} (F : (α → β → γ → δ → ε → ζ → MS → Option ρ) → α → β → γ → δ → ε → ζ → MS → Option ρ) : Nat → α → β → γ → δ → ε → ζ → MS → Option ρ
  | 0, _, _, _, _, _, _, _ => none
  | n + 1, a, b, c, d, e, f, h => F (lw6 F n) a b c d e f h
def lw7 {α β γ δ ε ζ η ρ : Type} (F : (α → β → γ → δ → ε → ζ → η → MS → Option ρ) → α → β → γ → δ → ε → ζ → η → MS → Option ρ) : Nat → α → β → γ → δ → ε → ζ → η → MS → Option ρ
  | 0, _, _, _, _, _, _, _, _ => none
  | n + 1, a, b, c, d, e, f, g, h => F (lw7 F n) a b c d e f g h
def lw8 {α β γ δ ε ζ η θ ρ : Type} (F : (α → β → γ → δ → ε → ζ → η → θ → MS → Option ρ) → α → β → γ → δ → ε → ζ → η → θ → MS → Option ρ) : Nat → α → β → γ → δ → ε → ζ → η → θ → MS → Option ρ
  | 0, _, _, _, _, _, _, _, _, _ => none
  | n + 1, a, b, c, d, e, f, g, i, h => F (lw8 F n) a b c d e f g i h
section EER
variable {G : GG} {p : Program} {l : Launch} {e : Env} {R : Room} {s : State} {m : MethodId} {args : Array Value} {below : List Frame} {meth : Method} {c : Code} {z : Option Value × AH} {mc ms pc ce sl : Nat} {lv : List (Nat × Value)} {st : List Value} {h : AH} {cc : ByteArray} {own : String} {T : Nat} {w : MS}
theorem r_hp {w2 : MS} (e1 : w2 = w) (k : EE G p l e R s m args below meth c z mc ms pc lv st (rh h T w2) ce sl) : EE G p l e R s m args below meth c z mc ms pc lv st (rh h T w) ce sl := e1 ▸ k
theorem r_geti {i : Nat} (o ci k : Nat) (hI : RI h T) (C : Cx G cc own p s m args meth c) (d : decode cc pc = .ok (.getfield i, 3)) (hci : ci < 13) (hk : k < k_N ci) (hlink : Cond.fieldLink own i (k_T ci k).1 (k_T ci k).2.1 (k_T ci k).2.2.1 ∈ gt) (hv : m_fv (k_ty ci k) (rh h T w) (T + o) k = .int (m_i (rh h T w) (T + o) k)) (ho : (o, .inl ci) ∈ rT) (h8 : o < 8) (kk : EE G p l e R s m args below meth c z mc ms (pc + 3) lv (.int (w.1 o k) :: st) (rh h T w) ce sl) : EE G p l e R s m args below meth c z mc ms pc lv (.ref (T + o) :: st) (rh h T w) ce sl :=
  e_geti ci k C d hci hk hlink hv (hI.1 _ ho) (by rw [rh_i h T w h8]; exact kk)
theorem r_getr {i : Nat} (o ci k t : Nat) (hI : RI h T) (C : Cx G cc own p s m args meth c) (d : decode cc pc = .ok (.getfield i, 3)) (hci : ci < 13) (hk : k < k_N ci) (hlink : Cond.fieldLink own i (k_T ci k).1 (k_T ci k).2.1 (k_T ci k).2.2.1 ∈ gt) (hv : m_fv (k_ty ci k) (rh h T w) (T + o) k = va_rf (m_r (rh h T w) (T + o) k)) (ho : (o, .inl ci) ∈ rT) (hr : (o, k, t) ∈ rR) (kk : EE G p l e R s m args below meth c z mc ms (pc + 3) lv (.ref (T + t) :: st) (rh h T w) ce sl) : EE G p l e R s m args below meth c z mc ms pc lv (.ref (T + o) :: st) (rh h T w) ce sl :=
  e_getr ci k C d hci hk hlink hv (hI.1 _ ho) (e_rf (hI.2 _ hr) kk)
theorem r_puti {i : Nat} {x : Int32} (o ci k : Nat) (hI : RI h T) (C : Cx G cc own p s m args meth c) (d : decode cc pc = .ok (.putfield i, 3)) (hci : ci < 13) (hk : k < k_N ci) (hlink : Cond.fieldLink own i (k_T ci k).1 (k_T ci k).2.1 (k_T ci k).2.2.1 ∈ gt) (hfin : (k_T ci k).2.2.2 = false) (hty : m_fv (k_ty ci k) (m_si (rh h T w) (T + o) k x) (T + o) k = .int (m_i (m_si (rh h T w) (T + o) k x) (T + o) k)) (hfit : fits (k_ty ci k) (.int x) = true) (hnw : narrow (k_ty ci k) (.int x) = .int x) (ho : (o, .inl ci) ∈ rT) (h8 : o < 8) (kk : EE G p l e R s m args below meth c z mc ms (pc + 3) lv st (rh h T (w_si w o k x)) ce sl) : EE G p l e R s m args below meth c z mc ms pc lv (.int x :: .ref (T + o) :: st) (rh h T w) ce sl :=
  e_puti ci k C d hci hk hlink hfin hty hfit hnw (hI.1 _ ho) (by rw [rh_si h8]; exact kk)
theorem r_getiN {i : Nat} {host : String} (o ci k : Nat) (hI : RI h T) (C : Cx G cc own p s m args meth c) (d : decode cc pc = .ok (.getfield i, 3)) (hci : ci < 13) (hk : k < k_N ci) (hlink : Cond.fieldLinkNest own i (k_T ci k).1 (k_T ci k).2.1 (k_T ci k).2.2.1 host ∈ nt) (hv : m_fv (k_ty ci k) (rh h T w) (T + o) k = .int (m_i (rh h T w) (T + o) k)) (ho : (o, .inl ci) ∈ rT) (h8 : o < 8) (kk : EE G p l e R s m args below meth c z mc ms (pc + 3) lv (.int (w.1 o k) :: st) (rh h T w) ce sl) : EE G p l e R s m args below meth c z mc ms pc lv (.ref (T + o) :: st) (rh h T w) ce sl :=
  e_getiN ci k C d hci hk hlink hv (hI.1 _ ho) (by rw [rh_i h T w h8]; exact kk)
theorem r_getrN {i : Nat} {host : String} (o ci k t : Nat) (hI : RI h T) (C : Cx G cc own p s m args meth c) (d : decode cc pc = .ok (.getfield i, 3)) (hci : ci < 13) (hk : k < k_N ci) (hlink : Cond.fieldLinkNest own i (k_T ci k).1 (k_T ci k).2.1 (k_T ci k).2.2.1 host ∈ nt) (hv : m_fv (k_ty ci k) (rh h T w) (T + o) k = va_rf (m_r (rh h T w) (T + o) k)) (ho : (o, .inl ci) ∈ rT) (hr : (o, k, t) ∈ rR) (kk : EE G p l e R s m args below meth c z mc ms (pc + 3) lv (.ref (T + t) :: st) (rh h T w) ce sl) : EE G p l e R s m args below meth c z mc ms pc lv (.ref (T + o) :: st) (rh h T w) ce sl :=
  e_getrN ci k C d hci hk hlink hv (hI.1 _ ho) (e_rf (hI.2 _ hr) kk)
theorem r_putiN {i : Nat} {x : Int32} {host : String} (o ci k : Nat) (hI : RI h T) (C : Cx G cc own p s m args meth c) (d : decode cc pc = .ok (.putfield i, 3)) (hci : ci < 13) (hk : k < k_N ci) (hlink : Cond.fieldLinkNest own i (k_T ci k).1 (k_T ci k).2.1 (k_T ci k).2.2.1 host ∈ nt) (hfin : (k_T ci k).2.2.2 = false) (hty : m_fv (k_ty ci k) (m_si (rh h T w) (T + o) k x) (T + o) k = .int (m_i (m_si (rh h T w) (T + o) k x) (T + o) k)) (hfit : fits (k_ty ci k) (.int x) = true) (hnw : narrow (k_ty ci k) (.int x) = .int x) (ho : (o, .inl ci) ∈ rT) (h8 : o < 8) (kk : EE G p l e R s m args below meth c z mc ms (pc + 3) lv st (rh h T (w_si w o k x)) ce sl) : EE G p l e R s m args below meth c z mc ms pc lv (.int x :: .ref (T + o) :: st) (rh h T w) ce sl :=
  e_putiN ci k C d hci hk hlink hfin hty hfit hnw (hI.1 _ ho) (by rw [rh_si h8]; exact kk)
theorem r_iald {i : Int32} (o n : Nat) (hI : RI h T) (C : Cx G cc own p s m args meth c) (d : decode cc pc = .ok (.iaload, 1)) (ho : (o, .inr (.int, n)) ∈ rT) (h8 : o < 8) (hin : vp_in i n) (kk : EE G p l e R s m args below meth c z mc ms (pc + 1) lv (.int (w.1 o i.toNatClampNeg) :: st) (rh h T w) ce sl) : EE G p l e R s m args below meth c z mc ms pc lv (.int i :: .ref (T + o) :: st) (rh h T w) ce sl :=
  e_iald C d (n := n) (hI.1 _ ho) hin (by rw [rh_i h T w h8]; exact kk)
theorem r_bald {i : Int32} (o n : Nat) (hI : RI h T) (C : Cx G cc own p s m args meth c) (d : decode cc pc = .ok (.baload, 1)) (ho : (o, .inr (.byte, n)) ∈ rT) (h8 : o < 8) (hin : vp_in i n) (kk : EE G p l e R s m args below meth c z mc ms (pc + 1) lv (.int (w.1 o i.toNatClampNeg) :: st) (rh h T w) ce sl) : EE G p l e R s m args below meth c z mc ms pc lv (.int i :: .ref (T + o) :: st) (rh h T w) ce sl :=
  e_bald C d (n := n) (hI.1 _ ho) hin (by rw [rh_i h T w h8]; exact kk)
theorem r_iast {i x : Int32} (o n : Nat) (hI : RI h T) (C : Cx G cc own p s m args meth c) (d : decode cc pc = .ok (.iastore, 1)) (ho : (o, .inr (.int, n)) ∈ rT) (h8 : o < 8) (hin : vp_in i n) (kk : EE G p l e R s m args below meth c z mc ms (pc + 1) lv st (rh h T (w_si w o i.toNatClampNeg x)) ce sl) : EE G p l e R s m args below meth c z mc ms pc lv (.int x :: .int i :: .ref (T + o) :: st) (rh h T w) ce sl :=
  e_iast C d (n := n) (hI.1 _ ho) hin (by rw [rh_si h8]; exact kk)
theorem r_bast {i x : Int32} (o n : Nat) (hI : RI h T) (C : Cx G cc own p s m args meth c) (d : decode cc pc = .ok (.bastore, 1)) (ho : (o, .inr (.byte, n)) ∈ rT) (h8 : o < 8) (hin : vp_in i n) (kk : EE G p l e R s m args below meth c z mc ms (pc + 1) lv st (rh h T (w_si w o i.toNatClampNeg x.toInt8.toInt32)) ce sl) : EE G p l e R s m args below meth c z mc ms pc lv (.int x :: .int i :: .ref (T + o) :: st) (rh h T w) ce sl :=
  e_bast C d (n := n) (hI.1 _ ho) hin (by rw [rh_si h8]; exact kk)
end EER
def p_J0_length_8abf5 (G : GG) (v0 : Nat) (w : MS) : Option (Int32 × MS) :=
ob (sx G v0) fun k => some (nI (s_len.getD k 0), w)
def p_J0_charAt_5068e (G : GG) (v0 : Nat) (v1 : Int32) (w : MS) : Option (Int32 × MS) :=
ob (sx G v0) fun k =>
ck (¬ v1 < 0 ∧ v1.toNatClampNeg < s_len.getD k 0) <|
some (s_ch k v1.toNatClampNeg, w)
theorem pr_J0_length_8abf5 {G : GG} {v0 : Nat} (F : MS → AH) {w : MS} {y : Int32 × MS} (hf : p_J0_length_8abf5 G v0 w = some y) : f_J0_length_8abf5 G v0 (F w) = some (y.1, F y.2) := by
  unfold p_J0_length_8abf5 at hf
  obtain ⟨k, ek, hf⟩ := ob_e hf
  obtain rfl := so_e hf
  unfold f_J0_length_8abf5
  rw [ek]
  rfl
theorem pr_J0_charAt_5068e {G : GG} {v0 : Nat} {v1 : Int32} (F : MS → AH) {w : MS} {y : Int32 × MS} (hf : p_J0_charAt_5068e G v0 v1 w = some y) : f_J0_charAt_5068e G v0 v1 (F w) = some (y.1, F y.2) := by
  unfold p_J0_charAt_5068e at hf
  obtain ⟨k, ek, hf⟩ := ob_e hf
  obtain ⟨hc, hf⟩ := ck_e hf
  obtain rfl := so_e hf
  unfold f_J0_charAt_5068e
  rw [ek]
  show ck _ _ = _
  unfold ck
  rw [if_pos hc]
