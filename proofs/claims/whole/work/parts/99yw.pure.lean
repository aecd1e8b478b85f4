/-! PURE 99yw: a memory as it is made, cell by cell. -/
abbrev TT : Type := Nat ⊕ (FieldType × Nat)
def lkT : List (Nat × TT) → Nat → Option TT
  | [], _ => none
  | e :: l, o => bif e.1 == o then some e.2 else lkT l o
def lkR : List (Nat × Nat × Option Nat) → Nat → Nat → Option (Option Nat)
  | [], _, _ => none
  | e :: l, o, k => bif (e.1 == o && e.2.1 == k) then some e.2.2 else lkR l o k
def lkI : List (Nat × Nat × Int32) → Nat → Nat → Int32
  | [], _, _ => 0
  | e :: l, o, k => bif (e.1 == o && e.2.1 == k) then e.2.2 else lkI l o k
theorem lkT_c (e : Nat × TT) (l : List (Nat × TT)) (o : Nat) : lkT (e :: l) o = if e.1 = o then some e.2 else lkT l o := by
  show (bif e.1 == o then some e.2 else lkT l o) = _
  by_cases z : e.1 = o
  · rw [if_pos z, z, beq_self_eq_true]; rfl
  · rw [if_neg z, beq_false_of_ne z]; rfl
theorem lkR_c (e : Nat × Nat × Option Nat) (l : List (Nat × Nat × Option Nat)) (o k : Nat) : lkR (e :: l) o k = if e.1 = o ∧ e.2.1 = k then some e.2.2 else lkR l o k := by
  show (bif (e.1 == o && e.2.1 == k) then some e.2.2 else lkR l o k) = _
  by_cases z : e.1 = o
  · by_cases y : e.2.1 = k
    · rw [if_pos ⟨z, y⟩, z, y, beq_self_eq_true, beq_self_eq_true]; rfl
    · rw [if_neg (fun q => y q.2), beq_false_of_ne y, Bool.and_false]; rfl
  · rw [if_neg (fun q => z q.1), beq_false_of_ne z]; rfl
theorem lkI_c (e : Nat × Nat × Int32) (l : List (Nat × Nat × Int32)) (o k : Nat) : lkI (e :: l) o k = if e.1 = o ∧ e.2.1 = k then e.2.2 else lkI l o k := by
  show (bif (e.1 == o && e.2.1 == k) then e.2.2 else lkI l o k) = _
  by_cases z : e.1 = o
  · by_cases y : e.2.1 = k
    · rw [if_pos ⟨z, y⟩, z, y, beq_self_eq_true, beq_self_eq_true]; rfl
    · rw [if_neg (fun q => y q.2), beq_false_of_ne y, Bool.and_false]; rfl
  · rw [if_neg (fun q => z q.1), beq_false_of_ne z]; rfl
theorem lkI_no {o k : Nat} : ∀ {l : List (Nat × Nat × Int32)}, (∀ e ∈ l, e.1 < o) → lkI l o k = 0
  | [], _ => rfl
  | e :: l, h => by
    have := h e List.mem_cons_self
    rw [lkI_c, if_neg (fun q => by omega)]
    exact lkI_no (fun e' he => h e' (List.mem_cons_of_mem _ he))
theorem lkR_no {o k : Nat} : ∀ {l : List (Nat × Nat × Option Nat)}, (∀ e ∈ l, e.1 < o) → lkR l o k = none
  | [], _ => rfl
  | e :: l, h => by
    have := h e List.mem_cons_self
    rw [lkR_c, if_neg (fun q => by omega)]
    exact lkR_no (fun e' he => h e' (List.mem_cons_of_mem _ he))
theorem lkT_no {o : Nat} : ∀ {l : List (Nat × TT)}, (∀ e ∈ l, e.1 < o) → lkT l o = none
  | [], _ => rfl
  | e :: l, h => by
    have := h e List.mem_cons_self
    rw [lkT_c, if_neg (fun q => by omega)]
    exact lkT_no (fun e' he => h e' (List.mem_cons_of_mem _ he))
/-- n cells from X on: what they are, what is known of their references, their numbers -/
def RM (X n : Nat) (t : List (Nat × TT)) (r : List (Nat × Nat × Option Nat)) (i : List (Nat × Nat × Int32)) (h : AH) : Prop := m_n h = X + n ∧ ((∀ e ∈ t, e.1 < n) ∧ (∀ e ∈ r, e.1 < n) ∧ ∀ e ∈ i, e.1 < n) ∧ (∀ o ty, lkT t o = some ty → m_t h (X + o) = ty) ∧ (∀ o k b, lkR r o k = some b → m_r h (X + o) k = b.map (X + ·)) ∧ ∀ o, o < n → ∀ k, m_i h (X + o) k = lkI i o k
theorem lkT_lt {n o : Nat} {ty : TT} {l : List (Nat × TT)} (h : ∀ e ∈ l, e.1 < n) (e : lkT l o = some ty) : o < n := by
  rcases Nat.lt_or_ge o n with z | z
  · exact z
  · rw [lkT_no (fun e he => by have := h e he; omega)] at e; cases e
theorem lkR_lt {n o k : Nat} {b : Option Nat} {l : List (Nat × Nat × Option Nat)} (h : ∀ e ∈ l, e.1 < n) (e : lkR l o k = some b) : o < n := by
  rcases Nat.lt_or_ge o n with z | z
  · exact z
  · rw [lkR_no (fun e he => by have := h e he; omega)] at e; cases e
section
variable {X n n' a k b : Nat} {t : List (Nat × TT)} {r : List (Nat × Nat × Option Nat)} {i : List (Nat × Nat × Int32)} {h : AH} {ty : TT} {v : Int32} {β : Type} {Q : β → Prop}
theorem RM.new (hr : RM X n t r i h) (ty : TT) : RM X (n + 1) ((n, ty) :: t) r i (m_new h ty) := by
  obtain ⟨h1, ⟨h2, h3, h4⟩, h5, h6, h7⟩ := hr
  refine ⟨by show m_n h + 1 = _; omega, ⟨fun e he => ?_, fun e he => by have := h3 e he; omega, fun e he => by have := h4 e he; omega⟩, fun o y e => ?_, fun o k b e => ?_, fun o ho k => ?_⟩
  · rcases List.mem_cons.mp he with z | z
    · rw [z]; show n < n + 1; omega
    · have := h2 e z; omega
  · rw [lkT_c] at e
    by_cases z : n = o
    · rw [if_pos z] at e
      cases e
      rw [← z, ← h1]; exact t_newn
    · rw [if_neg z] at e
      have := lkT_lt h2 e
      rw [t_newo (by omega)]; exact h5 o y e
  · have := lkR_lt h3 e
    rw [r_newo (by omega)]; exact h6 o k b e
  · by_cases z : o = n
    · rw [z, lkI_no h4, ← h1, i_new, if_pos rfl]
    · rw [i_newo (by omega)]; exact h7 o (by omega) k
theorem RM.sr (hr : RM X n t r i h) (ha : a < n) (k : Nat) (b : Option Nat) : RM X n t ((a, k, b) :: r) i (m_sr h (X + a) k (b.map (X + ·))) := by
  obtain ⟨h1, ⟨h2, h3, h4⟩, h5, h6, h7⟩ := hr
  refine ⟨h1, ⟨h2, fun e he => ?_, h4⟩, h5, fun o k' b' e => ?_, h7⟩
  · rcases List.mem_cons.mp he with z | z
    · rw [z]; exact ha
    · exact h3 e z
  · rw [lkR_c] at e
    by_cases z : a = o ∧ k = k'
    · rw [if_pos z] at e
      cases e
      rw [← z.1, ← z.2]; exact m_r_srs _ _ _ _
    · rw [if_neg z] at e
      by_cases y : o = a
      · rw [y, m_r_srj (fun q => z ⟨y.symm, q.symm⟩), ← y]; exact h6 o k' b' e
      · rw [m_r_srb (by omega)]; exact h6 o k' b' e
theorem RM.si (hr : RM X n t r i h) (ha : a < n) (k : Nat) (v : Int32) : RM X n t r ((a, k, v) :: i) (m_si h (X + a) k v) := by
  obtain ⟨h1, ⟨h2, h3, h4⟩, h5, h6, h7⟩ := hr
  refine ⟨h1, ⟨h2, h3, fun e he => ?_⟩, h5, h6, fun o ho k' => ?_⟩
  · rcases List.mem_cons.mp he with z | z
    · rw [z]; exact ha
    · exact h4 e z
  · rw [lkI_c]
    by_cases z : a = o ∧ k = k'
    · rw [if_pos z, ← z.1, ← z.2]; exact m_i_ss _ _ _ _
    · rw [if_neg z]
      by_cases y : o = a
      · rw [y, m_i_sj (fun q => z ⟨y.symm, q.symm⟩), ← y]; exact h7 o ho k'
      · rw [m_i_sb (by omega)]; exact h7 o ho k'
theorem x_new {K : Nat → AH → Option β} (hr : RM X n t r i h) (hn : n + 1 = n') (g : ∀ h', RM X n' ((n, ty) :: t) r i h' → ∃ y, K (X + n) h' = some y ∧ Q y) : ∃ y, (nn (m_n h) fun x => nn (m_new h ty) fun h2 => K x h2) = some y ∧ Q y := by
  rw [u_nn, u_nn, hr.1]
  exact g _ (hn ▸ hr.new ty)
/-- a fresh row of references, four of them none -/
theorem x_new4 {K : Nat → AH → Option β} (hr : RM X n t r i h) (hn : n + 1 = n') (g : ∀ h', RM X n' ((n, ty) :: t) ((n, 0, none) :: (n, 1, none) :: (n, 2, none) :: (n, 3, none) :: r) i h' → ∃ y, K (X + n) h' = some y ∧ Q y) : ∃ y, (nn (m_n h) fun x => nn (m_new h ty) fun h2 => K x h2) = some y ∧ Q y := by
  rw [u_nn, u_nn]
  have q := hr.new ty
  have e0 : ∀ k, m_r (m_new h ty) (X + n) k = none := fun k => by rw [← hr.1, r_new, if_pos rfl]
  subst hn
  rw [hr.1]
  refine g _ ⟨q.1, ⟨q.2.1.1, fun e he => ?_, q.2.1.2.2⟩, q.2.2.1, fun o k b e => ?_, q.2.2.2.2⟩
  · rcases List.mem_cons.mp he with z | he
    · rw [z]; show n < n + 1; omega
    rcases List.mem_cons.mp he with z | he
    · rw [z]; show n < n + 1; omega
    rcases List.mem_cons.mp he with z | he
    · rw [z]; show n < n + 1; omega
    rcases List.mem_cons.mp he with z | he
    · rw [z]; show n < n + 1; omega
    · exact q.2.1.2.1 e he
  · have key : ∀ (k0 : Nat) (l : List (Nat × Nat × Option Nat)), (lkR l o k = some b → m_r (m_new h ty) (X + o) k = b.map (X + ·)) → lkR ((n, k0, none) :: l) o k = some b → m_r (m_new h ty) (X + o) k = b.map (X + ·) := fun k0 l H e => by
      rw [lkR_c] at e
      by_cases z : n = o ∧ k0 = k
      · rw [if_pos z] at e
        cases e
        rw [← z.1]; exact e0 k
      · rw [if_neg z] at e; exact H e
    exact key 0 _ (key 1 _ (key 2 _ (key 3 _ (fun e => q.2.2.2.1 o k b e)))) e
theorem x_ck {B : Option β} (hr : RM X n t r i h) (e : lkT t a = some ty) (g : ∃ y, B = some y ∧ Q y) : ∃ y, (ck (m_t h (X + a) = ty) B) = some y ∧ Q y := by
  rw [u_ck (hr.2.2.1 a ty e)]; exact g
theorem x_ix {B : Option β} (hr : RM X n t r i h) {m j : Nat} {c : Int32} (e : lkT t a = some (.inr (.int, m))) (hc : c = nI j) (hj : j < m) (hm : m < 2 ^ 31) (g : ∃ y, B = some y ∧ Q y) : ∃ y, (ck (ixb h (X + a) .int c = true) B) = some y ∧ Q y := by
  rw [hc, u_ck (ixb_e (hr.2.2.1 a _ e) hj hm)]; exact g
theorem x_sr {K : AH → Option β} (hr : RM X n t r i h) (ha : a < n) (g : ∀ h', RM X n t ((a, k, some b) :: r) i h' → ∃ y, K h' = some y ∧ Q y) : ∃ y, (nn (m_sr h (X + a) k (some (X + b))) fun h2 => K h2) = some y ∧ Q y := by
  rw [u_nn]; exact g _ (hr.sr ha k (some b))
theorem x_sn {K : AH → Option β} (hr : RM X n t r i h) (ha : a < n) (g : ∀ h', RM X n t ((a, k, none) :: r) i h' → ∃ y, K h' = some y ∧ Q y) : ∃ y, (nn (m_sr h (X + a) k none) fun h2 => K h2) = some y ∧ Q y := by
  rw [u_nn]; exact g _ (hr.sr ha k none)
theorem x_si {K : AH → Option β} (hr : RM X n t r i h) (ha : a < n) (g : ∀ h', RM X n t r ((a, k, v) :: i) h' → ∃ y, K h' = some y ∧ Q y) : ∃ y, (nn (m_si h (X + a) k v) fun h2 => K h2) = some y ∧ Q y := by
  rw [u_nn]; exact g _ (hr.si ha k v)
theorem x_sk {K : AH → Option β} {kk : Nat} (hr : RM X n t r i h) (ha : a < n) (hk : kk = k) (g : ∀ h', RM X n t r ((a, k, v) :: i) h' → ∃ y, K h' = some y ∧ Q y) : ∃ y, (nn (m_si h (X + a) kk v) fun h2 => K h2) = some y ∧ Q y := by
  rw [u_nn, hk]; exact g _ (hr.si ha k v)
theorem x_r {K : Nat → Option β} (hr : RM X n t r i h) (e : lkR r a k = some (some b)) (g : ∃ y, K (X + b) = some y ∧ Q y) : ∃ y, (ob (m_r h (X + a) k) fun x => K x) = some y ∧ Q y := by
  rw [hr.2.2.2.1 a k _ e]; exact g
theorem x_ob {α : Type} {F : Option α} {K : α → Option β} (g : ∃ y1, F = some y1 ∧ ∃ y, K y1 = some y ∧ Q y) : ∃ y, (ob F fun x => K x) = some y ∧ Q y := by
  obtain ⟨y1, e, g⟩ := g
  rw [e]; exact g
theorem x_some {y0 : β} (g : Q y0) : ∃ y, some y0 = some y ∧ Q y := ⟨y0, rfl, g⟩
def TOK (X : Nat) (t : List (Nat × TT)) (h : AH) : Prop := ∀ o ty, lkT t o = some ty → m_t h (X + o) = ty
def ROK (X : Nat) (r : List (Nat × Nat × Option Nat)) (h : AH) : Prop := ∀ o k b, lkR r o k = some b → m_r h (X + o) k = b.map (X + ·)
theorem TOK.c {o0 : Nat} (e0 : m_t h (X + o0) = ty) (H : TOK X t h) : TOK X ((o0, ty) :: t) h := fun o y e => by
  rw [lkT_c] at e
  by_cases z : o0 = o
  · rw [if_pos z] at e; cases e; rw [← z]; exact e0
  · rw [if_neg z] at e; exact H o y e
theorem ROK.c {o0 k0 b0 : Nat} (e0 : m_r h (X + o0) k0 = some (X + b0)) (H : ROK X r h) : ROK X ((o0, k0, some b0) :: r) h := fun o k b e => by
  rw [lkR_c] at e
  by_cases z : o0 = o ∧ k0 = k
  · rw [if_pos z] at e; cases e; rw [← z.1, ← z.2]; exact e0
  · rw [if_neg z] at e; exact H o k b e
theorem bd_c {α : Type} {m o0 : Nat} {y : α} {l : List (Nat × α)} (e0 : o0 < m) (H : ∀ e ∈ l, e.1 < m) : ∀ e ∈ ((o0, y) :: l), e.1 < m := fun e he => by
  rcases List.mem_cons.mp he with z | z
  · rw [z]; exact e0
  · exact H e z
/-- a new train -/
theorem x_tr {G : GG} {K : Nat → AH → Option β} (hr : RM X n t r i h) (hn : n + 15 = n') (g : ∀ h', RM X n' ((n, .inl 9) :: (n + 1, .inr (.object RX5, 8)) :: (n + 2, .inr (.int, 5)) :: (n + 3, .inr (.int, 5)) :: (n + 4, .inr (.int, 5)) :: (n + 5, .inr (.int, 5)) :: (n + 6, .inr (.int, 5)) :: (n + 7, .inl 5) :: (n + 8, .inl 5) :: (n + 9, .inl 5) :: (n + 10, .inl 5) :: (n + 11, .inl 5) :: (n + 12, .inl 5) :: (n + 13, .inl 5) :: (n + 14, .inl 5) :: t) ((n, 6, some (n + 1)) :: (n, 8, some (n + 2)) :: (n, 9, some (n + 3)) :: (n, 11, some (n + 4)) :: (n, 12, some (n + 5)) :: (n, 13, some (n + 6)) :: (n + 1, 0, some (n + 7)) :: (n + 1, 1, some (n + 8)) :: (n + 1, 2, some (n + 9)) :: (n + 1, 3, some (n + 10)) :: (n + 1, 4, some (n + 11)) :: (n + 1, 5, some (n + 12)) :: (n + 1, 6, some (n + 13)) :: (n + 1, 7, some (n + 14)) :: r) i h' → ∃ y, K (X + n) h' = some y ∧ Q y) : ∃ y, (nn (m_n h) fun x => nn (m_new h (.inl 9)) fun h2 => ob (f_X9_init G x h2) fun h3 => K x h3) = some y ∧ Q y := by
  obtain ⟨h', a1, a2⟩ := c_trinit (G := G) h
  obtain ⟨h1, ⟨h2, h3, h4⟩, h5, h6, h7⟩ := hr
  rw [u_nn, u_nn, a1, u_ob, h1]
  rw [h1] at a2
  obtain ⟨b1, b2, ⟨c0, c1, c2, c3, c4, c5, c6⟩, ⟨d1, d2, d3, d4, d5, d6⟩, e1, e2⟩ := a2
  subst hn
  have f : ∀ o, o < n → m_t h' (X + o) = m_t h (X + o) ∧ m_r h' (X + o) = m_r h (X + o) ∧ m_i h' (X + o) = m_i h (X + o) := fun o ho => by
    have := b2 (X + o) (by omega)
    exact ⟨this.1, this.2.1, this.2.2.1⟩
  have e1' : ∀ q, q < 8 → m_r h' (X + (n + 1)) q = some (X + (n + 7 + q)) ∧ m_t h' (X + (n + 7 + q)) = .inl 5 := fun q hq => by
    have := e1 q hq
    rw [show X + (n + 1) = X + n + 1 by omega, show X + (n + 7 + q) = X + n + 7 + q by omega]; exact this
  refine g h' ⟨by omega, ⟨?_, ?_, fun e he => by have := h4 e he; omega⟩, ?_, ?_, fun o ho k => ?_⟩
  · exact bd_c (by omega) (bd_c (by omega) (bd_c (by omega) (bd_c (by omega) (bd_c (by omega) (bd_c (by omega) (bd_c (by omega) (bd_c (by omega) (bd_c (by omega) (bd_c (by omega) (bd_c (by omega) (bd_c (by omega) (bd_c (by omega) (bd_c (by omega) (bd_c (by omega) (fun e he => by have := h2 e he; omega)))))))))))))))
  · exact bd_c (by omega) (bd_c (by omega) (bd_c (by omega) (bd_c (by omega) (bd_c (by omega) (bd_c (by omega) (bd_c (by omega) (bd_c (by omega) (bd_c (by omega) (bd_c (by omega) (bd_c (by omega) (bd_c (by omega) (bd_c (by omega) (bd_c (by omega) (fun e he => by have := h3 e he; omega))))))))))))))
  · exact TOK.c c0 (TOK.c d1 (TOK.c d2 (TOK.c d3 (TOK.c d4 (TOK.c d5 (TOK.c d6 (TOK.c (e1' 0 (by decide)).2 (TOK.c (e1' 1 (by decide)).2 (TOK.c (e1' 2 (by decide)).2 (TOK.c (e1' 3 (by decide)).2 (TOK.c (e1' 4 (by decide)).2 (TOK.c (e1' 5 (by decide)).2 (TOK.c (e1' 6 (by decide)).2 (TOK.c (e1' 7 (by decide)).2 (fun o y e => by rw [(f o (lkT_lt h2 e)).1]; exact h5 o y e)))))))))))))))
  · exact ROK.c c1 (ROK.c c2 (ROK.c c3 (ROK.c c4 (ROK.c c5 (ROK.c c6 (ROK.c (e1' 0 (by decide)).1 (ROK.c (e1' 1 (by decide)).1 (ROK.c (e1' 2 (by decide)).1 (ROK.c (e1' 3 (by decide)).1 (ROK.c (e1' 4 (by decide)).1 (ROK.c (e1' 5 (by decide)).1 (ROK.c (e1' 6 (by decide)).1 (ROK.c (e1' 7 (by decide)).1 (fun o k b e => by rw [(f o (lkR_lt h3 e)).2.1]; exact h6 o k b e))))))))))))))
  · by_cases z : o < n
    · rw [(f o z).2.2]; exact h7 o z k
    · rw [lkI_no (fun e he => by have := h4 e he; omega)]
      exact e2 (X + o) (by omega) (by omega) k
end
