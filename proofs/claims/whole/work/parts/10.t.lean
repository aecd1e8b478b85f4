/-! The rows' functions of the tape and its readers on the whole memory (o: the cell's place behind the tape's). -/
def rs_of (h : AH) (T : Nat) : MS := (fun o => m_i h (T + o), fun _ _ => 0)
theorem rh_of (h : AH) (T : Nat) : rh h T (rs_of h T) = h := by
  have e1 : (fun a => if T ≤ a ∧ a < T + 8 then (rs_of h T).1 (a - T) else h.2.1 a) = h.2.1 := by
    funext a
    by_cases h1 : T ≤ a ∧ a < T + 8
    · rw [if_pos h1]
      show m_i h (T + (a - T)) = h.2.1 a
      rw [show T + (a - T) = a by omega]
      rfl
    · rw [if_neg h1]
  show (h.1, (fun a => if T ≤ a ∧ a < T + 8 then (rs_of h T).1 (a - T) else h.2.1 a), h.2.2.1, h.2.2.2.1, h.2.2.2.2) = h
  rw [e1]
noncomputable def lri (o a : Nat) (P : MS → Option (Int32 × MS)) (h : AH) : Option (Int32 × AH) := @ck _ (o ≤ a ∧ RI h (a - o)) (Classical.propDecidable _) (ob (P (rs_of h (a - o))) fun y => some (y.1, rh h (a - o) y.2))
noncomputable def lrv (o a : Nat) (P : MS → Option MS) (h : AH) : Option AH := @ck _ (o ≤ a ∧ RI h (a - o)) (Classical.propDecidable _) (ob (P (rs_of h (a - o))) fun y => some (rh h (a - o) y))
theorem lr_cti {G : GG} {l : Launch} {Y : MethodName} {b : ByteArray} {n fr lo mc ms : Nat} {r : Option FieldType} {As : List Value} {o a : Nat} {h : AH} {P : MS → Option (Int32 × MS)} {y : Int32 × AH} (H : RI h (a - o) → ∀ {w : MS} {y : Int32 × MS}, P w = some y → Ct G l Y b n r fr lo mc ms (.ref (a - o + o) :: As) (rh h (a - o) w) (some (.int y.1), rh h (a - o) y.2)) (hf : lri o a P h = some y) : Ct G l Y b n r fr lo mc ms (.ref a :: As) h (some (.int y.1), y.2) := by
  unfold lri at hf
  obtain ⟨⟨ho, hI⟩, hf⟩ := @ck_e _ _ (Classical.propDecidable _) _ _ hf
  obtain ⟨y1, e1, hf⟩ := ob_e hf
  obtain rfl := so_e hf
  have h1 := H hI e1
  rw [rh_of, Nat.sub_add_cancel ho] at h1
  exact h1
theorem lr_ctv {G : GG} {l : Launch} {Y : MethodName} {b : ByteArray} {n fr lo mc ms : Nat} {r : Option FieldType} {As : List Value} {o a : Nat} {h : AH} {P : MS → Option MS} {y : AH} (H : RI h (a - o) → ∀ {w y : MS}, P w = some y → Ct G l Y b n r fr lo mc ms (.ref (a - o + o) :: As) (rh h (a - o) w) (none, rh h (a - o) y)) (hf : lrv o a P h = some y) : Ct G l Y b n r fr lo mc ms (.ref a :: As) h (none, y) := by
  unfold lrv at hf
  obtain ⟨⟨ho, hI⟩, hf⟩ := @ck_e _ _ (Classical.propDecidable _) _ _ hf
  obtain ⟨y1, e1, hf⟩ := ob_e hf
  obtain rfl := so_e hf
  have h1 := H hI e1
  rw [rh_of, Nat.sub_add_cancel ho] at h1
  exact h1
