/-! The reference's functions on the whole memory. -/
def ms_of (h : AH) (M : Nat) : MS := (fun k => if k = 0 then m_i h M else m_i h (M + mofs k), fun k => if k = 0 then m_l h M else m_l h (M + mofs k))
theorem mofs_so : ∀ o, o < 63 → (o = 0 ∧ mso o = 0) ∨ (mso o ≠ 0 ∧ mofs (mso o) = o) := by decide +kernel
theorem mh_of (h : AH) (M : Nat) : mh h M (ms_of h M) = h := by
  have e1 : (fun a => if M ≤ a ∧ a < M + 63 then (ms_of h M).1 (mso (a - M)) else h.2.1 a) = h.2.1 := by
    funext a
    by_cases h1 : M ≤ a ∧ a < M + 63
    · rw [if_pos h1]
      rcases mofs_so (a - M) (by omega) with ⟨q1, q2⟩ | ⟨q1, q2⟩
      · show (if mso (a - M) = 0 then m_i h M else m_i h (M + mofs (mso (a - M)))) = h.2.1 a
        rw [if_pos q2, show a = M by omega]
        rfl
      · show (if mso (a - M) = 0 then m_i h M else m_i h (M + mofs (mso (a - M)))) = h.2.1 a
        rw [if_neg q1, q2, show M + (a - M) = a by omega]
        rfl
    · rw [if_neg h1]
  have e2 : (fun a => if M ≤ a ∧ a < M + 63 then (ms_of h M).2 (mso (a - M)) else h.2.2.1 a) = h.2.2.1 := by
    funext a
    by_cases h1 : M ≤ a ∧ a < M + 63
    · rw [if_pos h1]
      rcases mofs_so (a - M) (by omega) with ⟨q1, q2⟩ | ⟨q1, q2⟩
      · show (if mso (a - M) = 0 then m_l h M else m_l h (M + mofs (mso (a - M)))) = h.2.2.1 a
        rw [if_pos q2, show a = M by omega]
        rfl
      · show (if mso (a - M) = 0 then m_l h M else m_l h (M + mofs (mso (a - M)))) = h.2.2.1 a
        rw [if_neg q1, q2, show M + (a - M) = a by omega]
        rfl
    · rw [if_neg h1]
  show (h.1, (fun a => if M ≤ a ∧ a < M + 63 then (ms_of h M).1 (mso (a - M)) else h.2.1 a), (fun a => if M ≤ a ∧ a < M + 63 then (ms_of h M).2 (mso (a - M)) else h.2.2.1 a), h.2.2.2.1, h.2.2.2.2) = h
  rw [e1, e2]
noncomputable def lf (M : Nat) (P : MS → Option (Int32 × MS)) (h : AH) : Option (Int32 × AH) := @ck _ (MI h M) (Classical.propDecidable _) (ob (P (ms_of h M)) fun y => some (y.1, mh h M y.2))
theorem lf_ct {G : GG} {l : Launch} {Y : MethodName} {b : ByteArray} {n fr lo mc ms : Nat} {r : Option FieldType} {As : List Value} {M : Nat} {h : AH} {P : MS → Option (Int32 × MS)} {y : Int32 × AH} (H : MI h M → ∀ {w : MS} {y : Int32 × MS}, P w = some y → Ct G l Y b n r fr lo mc ms As (mh h M w) (some (.int y.1), mh h M y.2)) (hf : lf M P h = some y) : Ct G l Y b n r fr lo mc ms As h (some (.int y.1), y.2) := by
  unfold lf at hf
  obtain ⟨hI, hf⟩ := @ck_e _ _ (Classical.propDecidable _) _ _ hf
  obtain ⟨y1, e1, hf⟩ := ob_e hf
  obtain rfl := so_e hf
  have h1 := H hI e1
  rw [mh_of] at h1
  exact h1
theorem lf_eq {M : Nat} {P : MS → Option (Int32 × MS)} {h : AH} {w w2 : MS} {r : Int32} (hI : MI h M) (hw : ms_of h M = w) (hp : P w = some (r, w2)) : lf M P h = some (r, mh h M w2) := by
  unfold lf ck
  rw [if_pos hI, hw, hp]
  rfl
