/-! The reference over its rows, by a program of ours: X12_in X12_bits X12_has X12_held X12_isTrain X12_isPerson X12_rides X12_milesLeft X12_put X12_feed X12_end X12_wordOf X12_fails X12_sign X12_blanks X12_isDigit X12_stood X12_takes X12_entry X12_isCounted X12_digits X12_value X12_term X12_sum X12_compared X12_top X12_opens X12_answers X12_fact X12_test X12_amount X12_trainWord -/
theorem dX12_in_0 : decode cX12_in 0 = .ok (.lload_n 0, 1) := by decide +kernel
theorem dX12_in_1 : decode cX12_in 1 = .ok (.lload_n 2, 1) := by decide +kernel
theorem dX12_in_2 : decode cX12_in 2 = .ok (.lcmp, 1) := by decide +kernel
theorem dX12_in_3 : decode cX12_in 3 = .ok (.ifCond .lt 14, 3) := by decide +kernel
theorem dX12_in_6 : decode cX12_in 6 = .ok (.lload_n 0, 1) := by decide +kernel
theorem dX12_in_7 : decode cX12_in 7 = .ok (.lload 4, 2) := by decide +kernel
theorem dX12_in_9 : decode cX12_in 9 = .ok (.lcmp, 1) := by decide +kernel
theorem dX12_in_10 : decode cX12_in 10 = .ok (.ifCond .gt 7, 3) := by decide +kernel
theorem dX12_in_13 : decode cX12_in 13 = .ok (.iconst 1, 1) := by decide +kernel
theorem dX12_in_14 : decode cX12_in 14 = .ok (.goto 4, 3) := by decide +kernel
theorem dX12_in_17 : decode cX12_in 17 = .ok (.iconst 0, 1) := by decide +kernel
theorem dX12_in_18 : decode cX12_in 18 = .ok (.ireturn, 1) := by decide +kernel
def p_X12_in (G : GG) (v0 : Int64) (v2 : Int64) (v4 : Int64) (w : MS) : Option (Int32 × MS) :=
if (lg_cmp v0 v2) < 0 then (some ((0 : Int32), w)) else
if 0 < (lg_cmp v0 v4) then (some ((0 : Int32), w)) else
some ((1 : Int32), w)
set_option maxHeartbeats 4000000 in
set_option maxRecDepth 100000 in
theorem pt_X12_in {G : GG} {l : Launch} {M : Nat} {h : AH} (hI : MI h M) {v0 : Int64} {v2 : Int64} {v4 : Int64} {w : MS} {y : Int32 × MS} (hf : p_X12_in G v0 v2 v4 w = some y) : Ct G l yX12_in cX12_in 6 (some .boolean) 0 0 0 0 [.long v0, .long v2, .long v4] (mh h M w) (some (.int y.1), mh h M y.2) := by
  refine ct_of (by decide) (Nat.le_of_ble_eq_true rfl) ?_
  intro p e s m args below meth c C hm hr hin
  have C : Cx G cX12_in RX12 p s m args meth c := C
  refine e_lv (lv2 := [(0, .long v0), (2, .long v2), (4, .long v4)]) [0, 1, 2] rfl ?_
  unfold p_X12_in at hf
  refine e_lload_n (pc := 0) C dX12_in_0 0 rfl rfl ?_
  refine e_lload_n (pc := 1) C dX12_in_1 1 rfl rfl ?_
  refine e_lcmp (pc := 2) C dX12_in_2 ?_
  rcases it_e hf with ⟨c1, hf⟩ | ⟨c1, hf⟩
  · refine e_if_lt (pc := 3) (tgt := 17) C dX12_in_3 (by decide) (fun _ => ?_) (fun q => absurd c1 q)
    refine e_iconst (v := (0 : Int32)) (pc := 17) C dX12_in_17 (by decide) ?_
    obtain rfl := so_e hf
    exact e_zret (pc := 18) (v := (0 : Int32)) C hr (nz_ok (by decide)) dX12_in_18 (Nat.le_of_ble_eq_true rfl) (Nat.le_of_ble_eq_true rfl)
  · refine e_if_lt (pc := 3) (tgt := 17) C dX12_in_3 (by decide) (fun q => absurd q c1) (fun _ => ?_)
    refine e_lload_n (pc := 6) C dX12_in_6 0 rfl rfl ?_
    refine e_lload (pc := 7) C dX12_in_7 2 rfl ?_
    refine e_lcmp (pc := 9) C dX12_in_9 ?_
    rcases it_e hf with ⟨c2, hf⟩ | ⟨c2, hf⟩
    · refine e_if_gt (pc := 10) (tgt := 17) C dX12_in_10 (by decide) (fun _ => ?_) (fun q => absurd c2 q)
      refine e_iconst (v := (0 : Int32)) (pc := 17) C dX12_in_17 (by decide) ?_
      obtain rfl := so_e hf
      exact e_zret (pc := 18) (v := (0 : Int32)) C hr (nz_ok (by decide)) dX12_in_18 (Nat.le_of_ble_eq_true rfl) (Nat.le_of_ble_eq_true rfl)
    · refine e_if_gt (pc := 10) (tgt := 17) C dX12_in_10 (by decide) (fun q => absurd q c2) (fun _ => ?_)
      refine e_iconst (v := (1 : Int32)) (pc := 13) C dX12_in_13 (by decide) ?_
      refine e_goto (pc := 14) (tgt := 18) C dX12_in_14 (by decide) ?_
      obtain rfl := so_e hf
      exact e_zret (pc := 18) (v := (1 : Int32)) C hr (nz_ok (by decide)) dX12_in_18 (Nat.le_of_ble_eq_true rfl) (Nat.le_of_ble_eq_true rfl)
theorem dX12_bits_0 : decode cX12_bits 0 = .ok (.iconst 0, 1) := by decide +kernel
theorem dX12_bits_1 : decode cX12_bits 1 = .ok (.istore_n 1, 1) := by decide +kernel
theorem dX12_bits_2 : decode cX12_bits 2 = .ok (.iconst 0, 1) := by decide +kernel
theorem dX12_bits_3 : decode cX12_bits 3 = .ok (.istore_n 2, 1) := by decide +kernel
theorem dX12_bits_4 : decode cX12_bits 4 = .ok (.iload_n 2, 1) := by decide +kernel
theorem dX12_bits_5 : decode cX12_bits 5 = .ok (.bipush 16, 2) := by decide +kernel
theorem dX12_bits_7 : decode cX12_bits 7 = .ok (.if_icmp .ge 17, 3) := by decide +kernel
theorem dX12_bits_10 : decode cX12_bits 10 = .ok (.iload_n 1, 1) := by decide +kernel
theorem dX12_bits_11 : decode cX12_bits 11 = .ok (.iload_n 0, 1) := by decide +kernel
theorem dX12_bits_12 : decode cX12_bits 12 = .ok (.iload_n 2, 1) := by decide +kernel
theorem dX12_bits_13 : decode cX12_bits 13 = .ok (.ishr, 1) := by decide +kernel
theorem dX12_bits_14 : decode cX12_bits 14 = .ok (.iconst 1, 1) := by decide +kernel
theorem dX12_bits_15 : decode cX12_bits 15 = .ok (.iand, 1) := by decide +kernel
theorem dX12_bits_16 : decode cX12_bits 16 = .ok (.iadd, 1) := by decide +kernel
theorem dX12_bits_17 : decode cX12_bits 17 = .ok (.istore_n 1, 1) := by decide +kernel
theorem dX12_bits_18 : decode cX12_bits 18 = .ok (.iinc 2 1, 3) := by decide +kernel
theorem dX12_bits_21 : decode cX12_bits 21 = .ok (.goto (-17), 3) := by decide +kernel
theorem dX12_bits_24 : decode cX12_bits 24 = .ok (.iload_n 1, 1) := by decide +kernel
theorem dX12_bits_25 : decode cX12_bits 25 = .ok (.ireturn, 1) := by decide +kernel
def P_X12_bits_4 (G : GG) (v0 : Int32) (self_4 : Int32 → Int32 → MS → Option (Int32 × MS)) (v1 : Int32) (v2 : Int32) (w : MS) : Option (Int32 × MS) :=
if (16 : Int32) ≤ v2 then (some (v1, w)) else
nn (v1 + ((v0 >>> (v2 &&& 31)) &&& (1 : Int32))) fun x2 =>
nn (v2 + (1 : Int32)) fun x3 =>
self_4 x2 x3 w
def p_X12_bits (G : GG) (v0 : Int32) (w : MS) : Option (Int32 × MS) :=
lw2 (P_X12_bits_4 G v0 ) bN (0 : Int32) (0 : Int32) w
set_option maxHeartbeats 4000000 in
set_option maxRecDepth 100000 in
theorem ep_X12_bits_4 {G : GG} {p : Program} {l : Launch} {e : Env} {s : State} {m : MethodId} {args : Array Value} {below : List Frame} {meth : Method} {c : Code} {y : Int32 × MS} {M : Nat} {h : AH} (hI : MI h M) (C : Cx G cX12_bits RX12 p s m args meth c) (hm : c.maxLocals = 3) (hr : meth.sig.returnType = (some .int)) (hin : meth.name = yX12_bits.name) {v0 : Int32}  :
    ∀ (n : Nat) (v1 : Int32) (v2 : Int32) (w : MS), lw2 (P_X12_bits_4 G v0) n v1 v2 w = some y → EE G p l e ({ frames := 0, cells := 0, slots := 0, locals := 0 } : Room) s m args below meth c (some (.int y.1), mh h M y.2) 0 0 4 [(0, .int v0), (1, .int v1), (2, .int v2)] [] (mh h M w) 0 0 := by
  intro n
  induction n with
  | zero => intro v1 v2 w hf; exact (no_e hf).elim
  | succ n ih_4 =>
    intro v1 v2 w hf
    have hf : P_X12_bits_4 G v0 (lw2 (P_X12_bits_4 G v0) n) v1 v2 w = some y := hf
    generalize lw2 (P_X12_bits_4 G v0) n = self_4 at hf ih_4
    unfold P_X12_bits_4 at hf
    refine e_iload_n (pc := 4) C dX12_bits_4 2 rfl rfl ?_
    refine e_bipush (v := (16 : Int32)) (pc := 5) C dX12_bits_5 (by decide) ?_
    rcases it_e hf with ⟨c1, hf⟩ | ⟨c1, hf⟩
    · refine e_icmp_ge (pc := 7) (tgt := 24) C dX12_bits_7 (by decide) (fun _ => ?_) (fun q => absurd c1 q)
      refine e_iload_n (pc := 24) C dX12_bits_24 1 rfl rfl ?_
      obtain rfl := so_e hf
      exact e_iret (pc := 25) C hr dX12_bits_25 (Nat.le_of_ble_eq_true rfl) (Nat.le_of_ble_eq_true rfl)
    · refine e_icmp_ge (pc := 7) (tgt := 24) C dX12_bits_7 (by decide) (fun q => absurd q c1) (fun _ => ?_)
      refine e_iload_n (pc := 10) C dX12_bits_10 1 rfl rfl ?_
      refine e_iload_n (pc := 11) C dX12_bits_11 0 rfl rfl ?_
      refine e_iload_n (pc := 12) C dX12_bits_12 2 rfl rfl ?_
      refine e_ishr (pc := 13) C dX12_bits_13 ?_
      refine e_iconst (v := (1 : Int32)) (pc := 14) C dX12_bits_14 (by decide) ?_
      refine e_iand (pc := 15) C dX12_bits_15 ?_
      refine e_iadd (pc := 16) C dX12_bits_16 ?_
      obtain ⟨x2, ex2, hf⟩ := nn_e hf
      refine e_topi ex2 ?_
      refine e_istore_n (pc := 17) (lv2 := [(1, .int x2), (0, .int v0), (2, .int v2)]) C hm dX12_bits_17 rfl (by decide) rfl ?_
      obtain ⟨x3, ex3, hf⟩ := nn_e hf
      refine e_iinc (pc := 18) (v := x3) (lv2 := [(2, .int x3), (1, .int x2), (0, .int v0)]) C hm dX12_bits_18 2 rfl (by rw [ex3]; rfl) (by decide) rfl ?_
      refine e_goto (pc := 21) (tgt := 4) C dX12_bits_21 (by decide) ?_
      refine e_lv (lv2 := [(0, .int v0), (1, .int x2), (2, .int x3)]) [2, 1, 0] rfl ?_
      exact ih_4 x2 x3 w hf
set_option maxHeartbeats 4000000 in
set_option maxRecDepth 100000 in
theorem pt_X12_bits {G : GG} {l : Launch} {M : Nat} {h : AH} (hI : MI h M) {v0 : Int32} {w : MS} {y : Int32 × MS} (hf : p_X12_bits G v0 w = some y) : Ct G l yX12_bits cX12_bits 3 (some .int) 0 0 0 0 [.int v0] (mh h M w) (some (.int y.1), mh h M y.2) := by
  refine ct_of (by decide) (Nat.le_of_ble_eq_true rfl) ?_
  intro p e s m args below meth c C hm hr hin
  have C : Cx G cX12_bits RX12 p s m args meth c := C
  refine e_lv (lv2 := [(0, .int v0)]) [0] rfl ?_
  unfold p_X12_bits at hf
  refine e_iconst (v := (0 : Int32)) (pc := 0) C dX12_bits_0 (by decide) ?_
  refine e_istore_n (pc := 1) (lv2 := [(1, .int (0 : Int32)), (0, .int v0)]) C hm dX12_bits_1 rfl (by decide) rfl ?_
  refine e_iconst (v := (0 : Int32)) (pc := 2) C dX12_bits_2 (by decide) ?_
  refine e_istore_n (pc := 3) (lv2 := [(2, .int (0 : Int32)), (1, .int (0 : Int32)), (0, .int v0)]) C hm dX12_bits_3 rfl (by decide) rfl ?_
  refine e_lv (lv2 := [(0, .int v0), (1, .int (0 : Int32)), (2, .int (0 : Int32))]) [2, 1, 0] rfl ?_
  exact ep_X12_bits_4 hI C hm hr hin bN (0 : Int32) (0 : Int32) w hf
theorem dX12_has_0 : decode cX12_has 0 = .ok (.iload_n 0, 1) := by decide +kernel
theorem dX12_has_1 : decode cX12_has 1 = .ok (.iload_n 1, 1) := by decide +kernel
theorem dX12_has_2 : decode cX12_has 2 = .ok (.ishr, 1) := by decide +kernel
theorem dX12_has_3 : decode cX12_has 3 = .ok (.iconst 1, 1) := by decide +kernel
theorem dX12_has_4 : decode cX12_has 4 = .ok (.iand, 1) := by decide +kernel
theorem dX12_has_5 : decode cX12_has 5 = .ok (.iconst 1, 1) := by decide +kernel
theorem dX12_has_6 : decode cX12_has 6 = .ok (.if_icmp .ne 7, 3) := by decide +kernel
theorem dX12_has_9 : decode cX12_has 9 = .ok (.iconst 1, 1) := by decide +kernel
theorem dX12_has_10 : decode cX12_has 10 = .ok (.goto 4, 3) := by decide +kernel
theorem dX12_has_13 : decode cX12_has 13 = .ok (.iconst 0, 1) := by decide +kernel
theorem dX12_has_14 : decode cX12_has 14 = .ok (.ireturn, 1) := by decide +kernel
def p_X12_has (G : GG) (v0 : Int32) (v1 : Int32) (w : MS) : Option (Int32 × MS) :=
if ((v0 >>> (v1 &&& 31)) &&& (1 : Int32)) = (1 : Int32) then (some ((1 : Int32), w)) else
some ((0 : Int32), w)
set_option maxHeartbeats 4000000 in
set_option maxRecDepth 100000 in
theorem pt_X12_has {G : GG} {l : Launch} {M : Nat} {h : AH} (hI : MI h M) {v0 : Int32} {v1 : Int32} {w : MS} {y : Int32 × MS} (hf : p_X12_has G v0 v1 w = some y) : Ct G l yX12_has cX12_has 2 (some .boolean) 0 0 0 0 [.int v0, .int v1] (mh h M w) (some (.int y.1), mh h M y.2) := by
  refine ct_of (by decide) (Nat.le_of_ble_eq_true rfl) ?_
  intro p e s m args below meth c C hm hr hin
  have C : Cx G cX12_has RX12 p s m args meth c := C
  refine e_lv (lv2 := [(0, .int v0), (1, .int v1)]) [0, 1] rfl ?_
  unfold p_X12_has at hf
  refine e_iload_n (pc := 0) C dX12_has_0 0 rfl rfl ?_
  refine e_iload_n (pc := 1) C dX12_has_1 1 rfl rfl ?_
  refine e_ishr (pc := 2) C dX12_has_2 ?_
  refine e_iconst (v := (1 : Int32)) (pc := 3) C dX12_has_3 (by decide) ?_
  refine e_iand (pc := 4) C dX12_has_4 ?_
  refine e_iconst (v := (1 : Int32)) (pc := 5) C dX12_has_5 (by decide) ?_
  rcases it_e hf with ⟨c1, hf⟩ | ⟨c1, hf⟩
  · refine e_icmp_ne (pc := 6) (tgt := 13) C dX12_has_6 (by decide) (fun q => absurd c1 q) (fun _ => ?_)
    refine e_iconst (v := (1 : Int32)) (pc := 9) C dX12_has_9 (by decide) ?_
    refine e_goto (pc := 10) (tgt := 14) C dX12_has_10 (by decide) ?_
    obtain rfl := so_e hf
    exact e_zret (pc := 14) (v := (1 : Int32)) C hr (nz_ok (by decide)) dX12_has_14 (Nat.le_of_ble_eq_true rfl) (Nat.le_of_ble_eq_true rfl)
  · refine e_icmp_ne (pc := 6) (tgt := 13) C dX12_has_6 (by decide) (fun _ => ?_) (fun q => absurd q c1)
    refine e_iconst (v := (0 : Int32)) (pc := 13) C dX12_has_13 (by decide) ?_
    obtain rfl := so_e hf
    exact e_zret (pc := 14) (v := (0 : Int32)) C hr (nz_ok (by decide)) dX12_has_14 (Nat.le_of_ble_eq_true rfl) (Nat.le_of_ble_eq_true rfl)
theorem dX12_held_0 : decode cX12_held 0 = .ok (.lload_n 0, 1) := by decide +kernel
theorem dX12_held_1 : decode cX12_held 1 = .ok (.lconst 0, 1) := by decide +kernel
theorem dX12_held_2 : decode cX12_held 2 = .ok (.lcmp, 1) := by decide +kernel
theorem dX12_held_3 : decode cX12_held 3 = .ok (.ifCond .ge 7, 3) := by decide +kernel
theorem dX12_held_6 : decode cX12_held 6 = .ok (.iconst 0, 1) := by decide +kernel
theorem dX12_held_7 : decode cX12_held 7 = .ok (.goto 16, 3) := by decide +kernel
theorem dX12_held_10 : decode cX12_held 10 = .ok (.lload_n 0, 1) := by decide +kernel
theorem dX12_held_11 : decode cX12_held 11 = .ok (.iload_n 2, 1) := by decide +kernel
theorem dX12_held_12 : decode cX12_held 12 = .ok (.i2l, 1) := by decide +kernel
theorem dX12_held_13 : decode cX12_held 13 = .ok (.lcmp, 1) := by decide +kernel
theorem dX12_held_14 : decode cX12_held 14 = .ok (.ifCond .le 7, 3) := by decide +kernel
theorem dX12_held_17 : decode cX12_held 17 = .ok (.iload_n 2, 1) := by decide +kernel
theorem dX12_held_18 : decode cX12_held 18 = .ok (.goto 5, 3) := by decide +kernel
theorem dX12_held_21 : decode cX12_held 21 = .ok (.lload_n 0, 1) := by decide +kernel
theorem dX12_held_22 : decode cX12_held 22 = .ok (.l2i, 1) := by decide +kernel
theorem dX12_held_23 : decode cX12_held 23 = .ok (.ireturn, 1) := by decide +kernel
def p_X12_held (G : GG) (v0 : Int64) (v2 : Int32) (w : MS) : Option (Int32 × MS) :=
if 0 ≤ (lg_cmp v0 (0 : Int64)) then (if (lg_cmp v0 v2.toInt64) ≤ 0 then (some (v0.toInt32, w)) else
some (v2, w)) else
some ((0 : Int32), w)
set_option maxHeartbeats 4000000 in
set_option maxRecDepth 100000 in
theorem pt_X12_held {G : GG} {l : Launch} {M : Nat} {h : AH} (hI : MI h M) {v0 : Int64} {v2 : Int32} {w : MS} {y : Int32 × MS} (hf : p_X12_held G v0 v2 w = some y) : Ct G l yX12_held cX12_held 3 (some .int) 0 0 0 0 [.long v0, .int v2] (mh h M w) (some (.int y.1), mh h M y.2) := by
  refine ct_of (by decide) (Nat.le_of_ble_eq_true rfl) ?_
  intro p e s m args below meth c C hm hr hin
  have C : Cx G cX12_held RX12 p s m args meth c := C
  refine e_lv (lv2 := [(0, .long v0), (2, .int v2)]) [0, 1] rfl ?_
  unfold p_X12_held at hf
  refine e_lload_n (pc := 0) C dX12_held_0 0 rfl rfl ?_
  refine e_lconst (v := (0 : Int64)) (pc := 1) C dX12_held_1 (by decide) ?_
  refine e_lcmp (pc := 2) C dX12_held_2 ?_
  rcases it_e hf with ⟨c1, hf⟩ | ⟨c1, hf⟩
  · refine e_if_ge (pc := 3) (tgt := 10) C dX12_held_3 (by decide) (fun _ => ?_) (fun q => absurd c1 q)
    refine e_lload_n (pc := 10) C dX12_held_10 0 rfl rfl ?_
    refine e_iload_n (pc := 11) C dX12_held_11 1 rfl rfl ?_
    refine e_i2l (pc := 12) C dX12_held_12 ?_
    refine e_lcmp (pc := 13) C dX12_held_13 ?_
    rcases it_e hf with ⟨c2, hf⟩ | ⟨c2, hf⟩
    · refine e_if_le (pc := 14) (tgt := 21) C dX12_held_14 (by decide) (fun _ => ?_) (fun q => absurd c2 q)
      refine e_lload_n (pc := 21) C dX12_held_21 0 rfl rfl ?_
      refine e_l2i (pc := 22) C dX12_held_22 ?_
      obtain rfl := so_e hf
      exact e_iret (pc := 23) C hr dX12_held_23 (Nat.le_of_ble_eq_true rfl) (Nat.le_of_ble_eq_true rfl)
    · refine e_if_le (pc := 14) (tgt := 21) C dX12_held_14 (by decide) (fun q => absurd q c2) (fun _ => ?_)
      refine e_iload_n (pc := 17) C dX12_held_17 1 rfl rfl ?_
      refine e_goto (pc := 18) (tgt := 23) C dX12_held_18 (by decide) ?_
      obtain rfl := so_e hf
      exact e_iret (pc := 23) C hr dX12_held_23 (Nat.le_of_ble_eq_true rfl) (Nat.le_of_ble_eq_true rfl)
  · refine e_if_ge (pc := 3) (tgt := 10) C dX12_held_3 (by decide) (fun q => absurd q c1) (fun _ => ?_)
    refine e_iconst (v := (0 : Int32)) (pc := 6) C dX12_held_6 (by decide) ?_
    refine e_goto (pc := 7) (tgt := 23) C dX12_held_7 (by decide) ?_
    obtain rfl := so_e hf
    exact e_iret (pc := 23) C hr dX12_held_23 (Nat.le_of_ble_eq_true rfl) (Nat.le_of_ble_eq_true rfl)
theorem dX12_isTrain_0 : decode cX12_isTrain 0 = .ok (.aload_n 0, 1) := by decide +kernel
theorem dX12_isTrain_1 : decode cX12_isTrain 1 = .ok (.getfield 9, 3) := by decide +kernel
theorem dX12_isTrain_4 : decode cX12_isTrain 4 = .ok (.iconst 0, 1) := by decide +kernel
theorem dX12_isTrain_5 : decode cX12_isTrain 5 = .ok (.iaload, 1) := by decide +kernel
theorem dX12_isTrain_6 : decode cX12_isTrain 6 = .ok (.iconst 1, 1) := by decide +kernel
theorem dX12_isTrain_7 : decode cX12_isTrain 7 = .ok (.if_icmp .ne 7, 3) := by decide +kernel
theorem dX12_isTrain_10 : decode cX12_isTrain 10 = .ok (.iconst 1, 1) := by decide +kernel
theorem dX12_isTrain_11 : decode cX12_isTrain 11 = .ok (.goto 4, 3) := by decide +kernel
theorem dX12_isTrain_14 : decode cX12_isTrain 14 = .ok (.iconst 0, 1) := by decide +kernel
theorem dX12_isTrain_15 : decode cX12_isTrain 15 = .ok (.ireturn, 1) := by decide +kernel
def p_X12_isTrain (G : GG) (w : MS) : Option (Int32 × MS) :=
ck (ixn 17 (0 : Int32) = true) <|
if (w.1 1 (0 : Int32).toNatClampNeg) = (1 : Int32) then (some ((1 : Int32), w)) else
some ((0 : Int32), w)
set_option maxHeartbeats 4000000 in
set_option maxRecDepth 100000 in
theorem pt_X12_isTrain {G : GG} {l : Launch} {M : Nat} {h : AH} (hI : MI h M) {w : MS} {y : Int32 × MS} (hf : p_X12_isTrain G w = some y) : Ct G l yX12_isTrain cX12_isTrain 1 (some .boolean) 0 0 0 0 [.ref M] (mh h M w) (some (.int y.1), mh h M y.2) := by
  refine ct_of (by decide) (Nat.le_of_ble_eq_true rfl) ?_
  intro p e s m args below meth c C hm hr hin
  have C : Cx G cX12_isTrain RX12 p s m args meth c := C
  refine e_lv (lv2 := [(0, .ref M)]) [0] rfl ?_
  unfold p_X12_isTrain at hf
  refine e_aload_n (pc := 0) C dX12_isTrain_0 0 rfl rfl ?_
  refine q_getr (pc := 1) 1 hI C dX12_isTrain_1 (by decide) g1402 rfl rfl ?_
  refine e_iconst (v := (0 : Int32)) (pc := 4) C dX12_isTrain_4 (by decide) ?_
  obtain ⟨q1, hf⟩ := ck_e hf
  refine q_iald (pc := 5) (k := 1) hI C dX12_isTrain_5 rfl (ixn_e q1) ?_
  refine e_iconst (v := (1 : Int32)) (pc := 6) C dX12_isTrain_6 (by decide) ?_
  rcases it_e hf with ⟨c2, hf⟩ | ⟨c2, hf⟩
  · refine e_icmp_ne (pc := 7) (tgt := 14) C dX12_isTrain_7 (by decide) (fun q => absurd c2 q) (fun _ => ?_)
    refine e_iconst (v := (1 : Int32)) (pc := 10) C dX12_isTrain_10 (by decide) ?_
    refine e_goto (pc := 11) (tgt := 15) C dX12_isTrain_11 (by decide) ?_
    obtain rfl := so_e hf
    exact e_zret (pc := 15) (v := (1 : Int32)) C hr (nz_ok (by decide)) dX12_isTrain_15 (Nat.le_of_ble_eq_true rfl) (Nat.le_of_ble_eq_true rfl)
  · refine e_icmp_ne (pc := 7) (tgt := 14) C dX12_isTrain_7 (by decide) (fun _ => ?_) (fun q => absurd q c2)
    refine e_iconst (v := (0 : Int32)) (pc := 14) C dX12_isTrain_14 (by decide) ?_
    obtain rfl := so_e hf
    exact e_zret (pc := 15) (v := (0 : Int32)) C hr (nz_ok (by decide)) dX12_isTrain_15 (Nat.le_of_ble_eq_true rfl) (Nat.le_of_ble_eq_true rfl)
theorem dX12_isPerson_0 : decode cX12_isPerson 0 = .ok (.iload_n 1, 1) := by decide +kernel
theorem dX12_isPerson_1 : decode cX12_isPerson 1 = .ok (.i2l, 1) := by decide +kernel
theorem dX12_isPerson_2 : decode cX12_isPerson 2 = .ok (.lconst 0, 1) := by decide +kernel
theorem dX12_isPerson_3 : decode cX12_isPerson 3 = .ok (.aload_n 0, 1) := by decide +kernel
theorem dX12_isPerson_4 : decode cX12_isPerson 4 = .ok (.getfield 9, 3) := by decide +kernel
theorem dX12_isPerson_7 : decode cX12_isPerson 7 = .ok (.bipush 6, 2) := by decide +kernel
theorem dX12_isPerson_9 : decode cX12_isPerson 9 = .ok (.iaload, 1) := by decide +kernel
theorem dX12_isPerson_10 : decode cX12_isPerson 10 = .ok (.iconst 1, 1) := by decide +kernel
theorem dX12_isPerson_11 : decode cX12_isPerson 11 = .ok (.isub, 1) := by decide +kernel
theorem dX12_isPerson_12 : decode cX12_isPerson 12 = .ok (.i2l, 1) := by decide +kernel
theorem dX12_isPerson_13 : decode cX12_isPerson 13 = .ok (.invokestatic 206, 3) := by decide +kernel
theorem dX12_isPerson_16 : decode cX12_isPerson 16 = .ok (.ireturn, 1) := by decide +kernel
def p_X12_isPerson (G : GG) (v1 : Int32) (w : MS) : Option (Int32 × MS) :=
ck (ixn 17 (6 : Int32) = true) <|
cw (p_X12_in G v1.toInt64 (0 : Int64) (((w.1 1 (6 : Int32).toNatClampNeg) - (1 : Int32)).toInt64) w) fun r4 w2 =>
ck (r4 &&& 1 = r4) <|
some (r4, w2)
set_option maxHeartbeats 4000000 in
set_option maxRecDepth 100000 in
theorem pt_X12_isPerson {G : GG} {l : Launch} {M : Nat} {h : AH} (hI : MI h M) {v1 : Int32} {w : MS} {y : Int32 × MS} (hf : p_X12_isPerson G v1 w = some y) : Ct G l yX12_isPerson cX12_isPerson 2 (some .boolean) 1 25 0 0 [.ref M, .int v1] (mh h M w) (some (.int y.1), mh h M y.2) := by
  refine ct_of (by decide) (Nat.le_of_ble_eq_true rfl) ?_
  intro p e s m args below meth c C hm hr hin
  have C : Cx G cX12_isPerson RX12 p s m args meth c := C
  refine e_lv (lv2 := [(0, .ref M), (1, .int v1)]) [0, 1] rfl ?_
  unfold p_X12_isPerson at hf
  refine e_iload_n (pc := 0) C dX12_isPerson_0 1 rfl rfl ?_
  refine e_i2l (pc := 1) C dX12_isPerson_1 ?_
  refine e_lconst (v := (0 : Int64)) (pc := 2) C dX12_isPerson_2 (by decide) ?_
  refine e_aload_n (pc := 3) C dX12_isPerson_3 0 rfl rfl ?_
  refine q_getr (pc := 4) 1 hI C dX12_isPerson_4 (by decide) g1402 rfl rfl ?_
  refine e_bipush (v := (6 : Int32)) (pc := 7) C dX12_isPerson_7 (by decide) ?_
  obtain ⟨q1, hf⟩ := ck_e hf
  refine q_iald (pc := 9) (k := 1) hI C dX12_isPerson_9 rfl (ixn_e q1) ?_
  refine e_iconst (v := (1 : Int32)) (pc := 10) C dX12_isPerson_10 (by decide) ?_
  refine e_isub (pc := 11) C dX12_isPerson_11 ?_
  refine e_i2l (pc := 12) C dX12_isPerson_12 ?_
  obtain ⟨r4, w2, y3, hf⟩ := cw_e hf
  refine e_callSi (pc := 13) (st := []) C (pt_X12_in hI y3) dX12_isPerson_13 g1737 g1738 g157 g1739 hd_X12_in rfl ⟨Nat.le_of_ble_eq_true rfl, Nat.le_of_ble_eq_true rfl⟩ ⟨Nat.le_of_ble_eq_true rfl, Nat.le_of_ble_eq_true rfl⟩ rfl (Nat.le_of_ble_eq_true rfl) ?_
  obtain ⟨q5, hf⟩ := ck_e hf
  obtain rfl := so_e hf
  exact e_zret (pc := 16) (v := r4) C hr (nz_ok q5) dX12_isPerson_16 (Nat.le_of_ble_eq_true rfl) (Nat.le_of_ble_eq_true rfl)
theorem dX12_rides_0 : decode cX12_rides 0 = .ok (.aload_n 0, 1) := by decide +kernel
theorem dX12_rides_1 : decode cX12_rides 1 = .ok (.getfield 37, 3) := by decide +kernel
theorem dX12_rides_4 : decode cX12_rides 4 = .ok (.iload_n 1, 1) := by decide +kernel
theorem dX12_rides_5 : decode cX12_rides 5 = .ok (.iaload, 1) := by decide +kernel
theorem dX12_rides_6 : decode cX12_rides 6 = .ok (.iconst 1, 1) := by decide +kernel
theorem dX12_rides_7 : decode cX12_rides 7 = .ok (.if_icmp .ne 7, 3) := by decide +kernel
theorem dX12_rides_10 : decode cX12_rides 10 = .ok (.iconst 1, 1) := by decide +kernel
theorem dX12_rides_11 : decode cX12_rides 11 = .ok (.goto 4, 3) := by decide +kernel
theorem dX12_rides_14 : decode cX12_rides 14 = .ok (.iconst 0, 1) := by decide +kernel
theorem dX12_rides_15 : decode cX12_rides 15 = .ok (.ireturn, 1) := by decide +kernel
def p_X12_rides (G : GG) (v1 : Int32) (w : MS) : Option (Int32 × MS) :=
ck (ixn 8 v1 = true) <|
if (w.1 10 v1.toNatClampNeg) = (1 : Int32) then (some ((1 : Int32), w)) else
some ((0 : Int32), w)
set_option maxHeartbeats 4000000 in
set_option maxRecDepth 100000 in
theorem pt_X12_rides {G : GG} {l : Launch} {M : Nat} {h : AH} (hI : MI h M) {v1 : Int32} {w : MS} {y : Int32 × MS} (hf : p_X12_rides G v1 w = some y) : Ct G l yX12_rides cX12_rides 2 (some .boolean) 0 0 0 0 [.ref M, .int v1] (mh h M w) (some (.int y.1), mh h M y.2) := by
  refine ct_of (by decide) (Nat.le_of_ble_eq_true rfl) ?_
  intro p e s m args below meth c C hm hr hin
  have C : Cx G cX12_rides RX12 p s m args meth c := C
  refine e_lv (lv2 := [(0, .ref M), (1, .int v1)]) [0, 1] rfl ?_
  unfold p_X12_rides at hf
  refine e_aload_n (pc := 0) C dX12_rides_0 0 rfl rfl ?_
  refine q_getr (pc := 1) 10 hI C dX12_rides_1 (by decide) g1411 rfl rfl ?_
  refine e_iload_n (pc := 4) C dX12_rides_4 1 rfl rfl ?_
  obtain ⟨q1, hf⟩ := ck_e hf
  refine q_iald (pc := 5) (k := 10) hI C dX12_rides_5 rfl (ixn_e q1) ?_
  refine e_iconst (v := (1 : Int32)) (pc := 6) C dX12_rides_6 (by decide) ?_
  rcases it_e hf with ⟨c2, hf⟩ | ⟨c2, hf⟩
  · refine e_icmp_ne (pc := 7) (tgt := 14) C dX12_rides_7 (by decide) (fun q => absurd c2 q) (fun _ => ?_)
    refine e_iconst (v := (1 : Int32)) (pc := 10) C dX12_rides_10 (by decide) ?_
    refine e_goto (pc := 11) (tgt := 15) C dX12_rides_11 (by decide) ?_
    obtain rfl := so_e hf
    exact e_zret (pc := 15) (v := (1 : Int32)) C hr (nz_ok (by decide)) dX12_rides_15 (Nat.le_of_ble_eq_true rfl) (Nat.le_of_ble_eq_true rfl)
  · refine e_icmp_ne (pc := 7) (tgt := 14) C dX12_rides_7 (by decide) (fun _ => ?_) (fun q => absurd q c2)
    refine e_iconst (v := (0 : Int32)) (pc := 14) C dX12_rides_14 (by decide) ?_
    obtain rfl := so_e hf
    exact e_zret (pc := 15) (v := (0 : Int32)) C hr (nz_ok (by decide)) dX12_rides_15 (Nat.le_of_ble_eq_true rfl) (Nat.le_of_ble_eq_true rfl)
theorem dX12_milesLeft_0 : decode cX12_milesLeft 0 = .ok (.sipush 240, 3) := by decide +kernel
theorem dX12_milesLeft_3 : decode cX12_milesLeft 3 = .ok (.aload_n 0, 1) := by decide +kernel
theorem dX12_milesLeft_4 : decode cX12_milesLeft 4 = .ok (.getfield 9, 3) := by decide +kernel
theorem dX12_milesLeft_7 : decode cX12_milesLeft 7 = .ok (.bipush 10, 2) := by decide +kernel
theorem dX12_milesLeft_9 : decode cX12_milesLeft 9 = .ok (.iaload, 1) := by decide +kernel
theorem dX12_milesLeft_10 : decode cX12_milesLeft 10 = .ok (.isub, 1) := by decide +kernel
theorem dX12_milesLeft_11 : decode cX12_milesLeft 11 = .ok (.ireturn, 1) := by decide +kernel
def p_X12_milesLeft (G : GG) (w : MS) : Option (Int32 × MS) :=
ck (ixn 17 (10 : Int32) = true) <|
some ((240 : Int32) - (w.1 1 (10 : Int32).toNatClampNeg), w)
set_option maxHeartbeats 4000000 in
set_option maxRecDepth 100000 in
theorem pt_X12_milesLeft {G : GG} {l : Launch} {M : Nat} {h : AH} (hI : MI h M) {w : MS} {y : Int32 × MS} (hf : p_X12_milesLeft G w = some y) : Ct G l yX12_milesLeft cX12_milesLeft 1 (some .int) 0 0 0 0 [.ref M] (mh h M w) (some (.int y.1), mh h M y.2) := by
  refine ct_of (by decide) (Nat.le_of_ble_eq_true rfl) ?_
  intro p e s m args below meth c C hm hr hin
  have C : Cx G cX12_milesLeft RX12 p s m args meth c := C
  refine e_lv (lv2 := [(0, .ref M)]) [0] rfl ?_
  unfold p_X12_milesLeft at hf
  refine e_sipush (v := (240 : Int32)) (pc := 0) C dX12_milesLeft_0 (by decide) ?_
  refine e_aload_n (pc := 3) C dX12_milesLeft_3 0 rfl rfl ?_
  refine q_getr (pc := 4) 1 hI C dX12_milesLeft_4 (by decide) g1402 rfl rfl ?_
  refine e_bipush (v := (10 : Int32)) (pc := 7) C dX12_milesLeft_7 (by decide) ?_
  obtain ⟨q1, hf⟩ := ck_e hf
  refine q_iald (pc := 9) (k := 1) hI C dX12_milesLeft_9 rfl (ixn_e q1) ?_
  refine e_isub (pc := 10) C dX12_milesLeft_10 ?_
  obtain rfl := so_e hf
  exact e_iret (pc := 11) C hr dX12_milesLeft_11 (Nat.le_of_ble_eq_true rfl) (Nat.le_of_ble_eq_true rfl)
theorem dX12_put_0 : decode cX12_put 0 = .ok (.bipush 24, 2) := by decide +kernel
theorem dX12_put_2 : decode cX12_put 2 = .ok (.istore_n 2, 1) := by decide +kernel
theorem dX12_put_3 : decode cX12_put 3 = .ok (.iload_n 2, 1) := by decide +kernel
theorem dX12_put_4 : decode cX12_put 4 = .ok (.ifCond .lt 32, 3) := by decide +kernel
theorem dX12_put_7 : decode cX12_put 7 = .ok (.aload_n 0, 1) := by decide +kernel
theorem dX12_put_8 : decode cX12_put 8 = .ok (.getfield 107, 3) := by decide +kernel
theorem dX12_put_11 : decode cX12_put 11 = .ok (.aload_n 0, 1) := by decide +kernel
theorem dX12_put_12 : decode cX12_put 12 = .ok (.getfield 210, 3) := by decide +kernel
theorem dX12_put_15 : decode cX12_put 15 = .ok (.iload_n 1, 1) := by decide +kernel
theorem dX12_put_16 : decode cX12_put 16 = .ok (.iload_n 2, 1) := by decide +kernel
theorem dX12_put_17 : decode cX12_put 17 = .ok (.ishr, 1) := by decide +kernel
theorem dX12_put_18 : decode cX12_put 18 = .ok (.i2b, 1) := by decide +kernel
theorem dX12_put_19 : decode cX12_put 19 = .ok (.bastore, 1) := by decide +kernel
theorem dX12_put_20 : decode cX12_put 20 = .ok (.aload_n 0, 1) := by decide +kernel
theorem dX12_put_21 : decode cX12_put 21 = .ok (.dup, 1) := by decide +kernel
theorem dX12_put_22 : decode cX12_put 22 = .ok (.getfield 210, 3) := by decide +kernel
theorem dX12_put_25 : decode cX12_put 25 = .ok (.iconst 1, 1) := by decide +kernel
theorem dX12_put_26 : decode cX12_put 26 = .ok (.iadd, 1) := by decide +kernel
theorem dX12_put_27 : decode cX12_put 27 = .ok (.putfield 210, 3) := by decide +kernel
theorem dX12_put_30 : decode cX12_put 30 = .ok (.iinc 2 (-8), 3) := by decide +kernel
theorem dX12_put_33 : decode cX12_put 33 = .ok (.goto (-30), 3) := by decide +kernel
theorem dX12_put_36 : decode cX12_put 36 = .ok (.return_, 1) := by decide +kernel
def P_X12_put_3 (G : GG) (v1 : Int32) (self_3 : Int32 → MS → Option (MS)) (v2 : Int32) (w : MS) : Option (MS) :=
if v2 < 0 then (some w) else
ck (ixn 400 (w.1 0 32) = true) <|
nn (w_si w 42 (w.1 0 32).toNatClampNeg ((v1 >>> (v2 &&& 31)).toInt8.toInt32).toInt8.toInt32) fun w3 =>
nn (w_si w3 0 32 ((w3.1 0 32) + (1 : Int32))) fun w4 =>
nn (v2 + (-8 : Int32)) fun x5 =>
self_3 x5 w4
def p_X12_put (G : GG) (v1 : Int32) (w : MS) : Option (MS) :=
lw1 (P_X12_put_3 G v1 ) bN (24 : Int32) w
set_option maxHeartbeats 4000000 in
set_option maxRecDepth 100000 in
theorem ep_X12_put_3 {G : GG} {p : Program} {l : Launch} {e : Env} {s : State} {m : MethodId} {args : Array Value} {below : List Frame} {meth : Method} {c : Code} {y : MS} {M : Nat} {h : AH} (hI : MI h M) (C : Cx G cX12_put RX12 p s m args meth c) (hm : c.maxLocals = 3) (hr : meth.sig.returnType = none) (hin : meth.name = yX12_put.name) {v1 : Int32}  :
    ∀ (n : Nat) (v2 : Int32) (w : MS), lw1 (P_X12_put_3 G v1) n v2 w = some y → EE G p l e ({ frames := 0, cells := 0, slots := 0, locals := 0 } : Room) s m args below meth c (none, mh h M y) 0 0 3 [(0, .ref M), (1, .int v1), (2, .int v2)] [] (mh h M w) 0 0 := by
  intro n
  induction n with
  | zero => intro v2 w hf; exact (no_e hf).elim
  | succ n ih_3 =>
    intro v2 w hf
    have hf : P_X12_put_3 G v1 (lw1 (P_X12_put_3 G v1) n) v2 w = some y := hf
    generalize lw1 (P_X12_put_3 G v1) n = self_3 at hf ih_3
    unfold P_X12_put_3 at hf
    refine e_iload_n (pc := 3) C dX12_put_3 2 rfl rfl ?_
    rcases it_e hf with ⟨c1, hf⟩ | ⟨c1, hf⟩
    · refine e_if_lt (pc := 4) (tgt := 36) C dX12_put_4 (by decide) (fun _ => ?_) (fun q => absurd c1 q)
      obtain rfl := so_e hf
      exact e_vret (pc := 36) C hr dX12_put_36 (Nat.le_of_ble_eq_true rfl) (Nat.le_of_ble_eq_true rfl)
    · refine e_if_lt (pc := 4) (tgt := 36) C dX12_put_4 (by decide) (fun q => absurd q c1) (fun _ => ?_)
      refine e_aload_n (pc := 7) C dX12_put_7 0 rfl rfl ?_
      refine q_getr (pc := 8) 42 hI C dX12_put_8 (by decide) g1443 rfl rfl ?_
      refine e_aload_n (pc := 11) C dX12_put_11 0 rfl rfl ?_
      refine q_geti (pc := 12) 32 hI C dX12_put_12 (by decide) g1433 rfl ?_
      refine e_iload_n (pc := 15) C dX12_put_15 1 rfl rfl ?_
      refine e_iload_n (pc := 16) C dX12_put_16 2 rfl rfl ?_
      refine e_ishr (pc := 17) C dX12_put_17 ?_
      refine e_i2b (pc := 18) C dX12_put_18 ?_
      obtain ⟨q2, hf⟩ := ck_e hf
      refine q_bast (pc := 19) (k := 42) hI C dX12_put_19 rfl rfl (ixn_e q2) ?_
      obtain ⟨w3, ew3, hf⟩ := nn_e hf
      refine q_hp ew3 ?_
      refine e_aload_n (pc := 20) C dX12_put_20 0 rfl rfl ?_
      refine e_dup (pc := 21) C dX12_put_21 rfl ?_
      refine q_geti (pc := 22) 32 hI C dX12_put_22 (by decide) g1433 rfl ?_
      refine e_iconst (v := (1 : Int32)) (pc := 25) C dX12_put_25 (by decide) ?_
      refine e_iadd (pc := 26) C dX12_put_26 ?_
      refine q_puti (pc := 27) 32 hI C dX12_put_27 (by decide) g1433 rfl rfl rfl rfl ?_
      obtain ⟨w4, ew4, hf⟩ := nn_e hf
      refine q_hp ew4 ?_
      obtain ⟨x5, ex5, hf⟩ := nn_e hf
      refine e_iinc (pc := 30) (v := x5) (lv2 := [(2, .int x5), (0, .ref M), (1, .int v1)]) C hm dX12_put_30 2 rfl (by rw [ex5]; rfl) (by decide) rfl ?_
      refine e_goto (pc := 33) (tgt := 3) C dX12_put_33 (by decide) ?_
      refine e_lv (lv2 := [(0, .ref M), (1, .int v1), (2, .int x5)]) [1, 2, 0] rfl ?_
      exact ih_3 x5 w4 hf
set_option maxHeartbeats 4000000 in
set_option maxRecDepth 100000 in
theorem pt_X12_put {G : GG} {l : Launch} {M : Nat} {h : AH} (hI : MI h M) {v1 : Int32} {w : MS} {y : MS} (hf : p_X12_put G v1 w = some y) : Ct G l yX12_put cX12_put 3 none 0 0 0 0 [.ref M, .int v1] (mh h M w) (none, mh h M y) := by
  refine ct_of (by decide) (Nat.le_of_ble_eq_true rfl) ?_
  intro p e s m args below meth c C hm hr hin
  have C : Cx G cX12_put RX12 p s m args meth c := C
  refine e_lv (lv2 := [(0, .ref M), (1, .int v1)]) [0, 1] rfl ?_
  unfold p_X12_put at hf
  refine e_bipush (v := (24 : Int32)) (pc := 0) C dX12_put_0 (by decide) ?_
  refine e_istore_n (pc := 2) (lv2 := [(2, .int (24 : Int32)), (0, .ref M), (1, .int v1)]) C hm dX12_put_2 rfl (by decide) rfl ?_
  refine e_lv (lv2 := [(0, .ref M), (1, .int v1), (2, .int (24 : Int32))]) [1, 2, 0] rfl ?_
  exact ep_X12_put_3 hI C hm hr hin bN (24 : Int32) w hf
theorem dX12_feed_0 : decode cX12_feed 0 = .ok (.aload_n 0, 1) := by decide +kernel
theorem dX12_feed_1 : decode cX12_feed 1 = .ok (.getfield 210, 3) := by decide +kernel
theorem dX12_feed_4 : decode cX12_feed 4 = .ok (.bipush 20, 2) := by decide +kernel
theorem dX12_feed_6 : decode cX12_feed 6 = .ok (.iadd, 1) := by decide +kernel
theorem dX12_feed_7 : decode cX12_feed 7 = .ok (.sipush 400, 3) := by decide +kernel
theorem dX12_feed_10 : decode cX12_feed 10 = .ok (.if_icmp .le 5, 3) := by decide +kernel
theorem dX12_feed_13 : decode cX12_feed 13 = .ok (.iconst (-1), 1) := by decide +kernel
theorem dX12_feed_14 : decode cX12_feed 14 = .ok (.ireturn, 1) := by decide +kernel
theorem dX12_feed_15 : decode cX12_feed 15 = .ok (.aload_n 0, 1) := by decide +kernel
theorem dX12_feed_16 : decode cX12_feed 16 = .ok (.iload_n 1, 1) := by decide +kernel
theorem dX12_feed_17 : decode cX12_feed 17 = .ok (.invokevirtual 213, 3) := by decide +kernel
theorem dX12_feed_20 : decode cX12_feed 20 = .ok (.aload_n 0, 1) := by decide +kernel
theorem dX12_feed_21 : decode cX12_feed 21 = .ok (.iload_n 2, 1) := by decide +kernel
theorem dX12_feed_22 : decode cX12_feed 22 = .ok (.invokevirtual 213, 3) := by decide +kernel
theorem dX12_feed_25 : decode cX12_feed 25 = .ok (.aload_n 0, 1) := by decide +kernel
theorem dX12_feed_26 : decode cX12_feed 26 = .ok (.iload_n 3, 1) := by decide +kernel
theorem dX12_feed_27 : decode cX12_feed 27 = .ok (.invokevirtual 213, 3) := by decide +kernel
theorem dX12_feed_30 : decode cX12_feed 30 = .ok (.aload_n 0, 1) := by decide +kernel
theorem dX12_feed_31 : decode cX12_feed 31 = .ok (.iload 4, 2) := by decide +kernel
theorem dX12_feed_33 : decode cX12_feed 33 = .ok (.invokevirtual 213, 3) := by decide +kernel
theorem dX12_feed_36 : decode cX12_feed 36 = .ok (.aload_n 0, 1) := by decide +kernel
theorem dX12_feed_37 : decode cX12_feed 37 = .ok (.iload 5, 2) := by decide +kernel
theorem dX12_feed_39 : decode cX12_feed 39 = .ok (.invokevirtual 213, 3) := by decide +kernel
theorem dX12_feed_42 : decode cX12_feed 42 = .ok (.aload_n 0, 1) := by decide +kernel
theorem dX12_feed_43 : decode cX12_feed 43 = .ok (.getfield 210, 3) := by decide +kernel
theorem dX12_feed_46 : decode cX12_feed 46 = .ok (.ireturn, 1) := by decide +kernel
def p_X12_feed (G : GG) (v1 : Int32) (v2 : Int32) (v3 : Int32) (v4 : Int32) (v5 : Int32) (w : MS) : Option (Int32 × MS) :=
if ((w.1 0 32) + (20 : Int32)) ≤ (400 : Int32) then (ob (p_X12_put G v1 w) fun w2 =>
ob (p_X12_put G v2 w2) fun w4 =>
ob (p_X12_put G v3 w4) fun w6 =>
ob (p_X12_put G v4 w6) fun w8 =>
ob (p_X12_put G v5 w8) fun w10 =>
some (w10.1 0 32, w10)) else
some ((-1 : Int32), w)
set_option maxHeartbeats 4000000 in
set_option maxRecDepth 100000 in
theorem pt_X12_feed {G : GG} {l : Launch} {M : Nat} {h : AH} (hI : MI h M) {v1 : Int32} {v2 : Int32} {v3 : Int32} {v4 : Int32} {v5 : Int32} {w : MS} {y : Int32 × MS} (hf : p_X12_feed G v1 v2 v3 v4 v5 w = some y) : Ct G l yX12_feed cX12_feed 6 (some .int) 1 22 0 0 [.ref M, .int v1, .int v2, .int v3, .int v4, .int v5] (mh h M w) (some (.int y.1), mh h M y.2) := by
  refine ct_of (by decide) (Nat.le_of_ble_eq_true rfl) ?_
  intro p e s m args below meth c C hm hr hin
  have C : Cx G cX12_feed RX12 p s m args meth c := C
  refine e_lv (lv2 := [(0, .ref M), (1, .int v1), (2, .int v2), (3, .int v3), (4, .int v4), (5, .int v5)]) [0, 1, 2, 3, 4, 5] rfl ?_
  unfold p_X12_feed at hf
  refine e_aload_n (pc := 0) C dX12_feed_0 0 rfl rfl ?_
  refine q_geti (pc := 1) 32 hI C dX12_feed_1 (by decide) g1433 rfl ?_
  refine e_bipush (v := (20 : Int32)) (pc := 4) C dX12_feed_4 (by decide) ?_
  refine e_iadd (pc := 6) C dX12_feed_6 ?_
  refine e_sipush (v := (400 : Int32)) (pc := 7) C dX12_feed_7 (by decide) ?_
  rcases it_e hf with ⟨c1, hf⟩ | ⟨c1, hf⟩
  · refine e_icmp_le (pc := 10) (tgt := 15) C dX12_feed_10 (by decide) (fun _ => ?_) (fun q => absurd c1 q)
    refine e_aload_n (pc := 15) C dX12_feed_15 0 rfl rfl ?_
    refine e_iload_n (pc := 16) C dX12_feed_16 1 rfl rfl ?_
    obtain ⟨w2, y3, hf⟩ := ob_e hf
    refine e_callVv (pc := 17) (st := []) 12 C (pt_X12_put hI y3) dX12_feed_17 (by decide) hI.1 g1662 g1664 g55 g157 g1665 hd_X12_put rfl ⟨Nat.le_of_ble_eq_true rfl, Nat.le_of_ble_eq_true rfl⟩ ⟨Nat.le_of_ble_eq_true rfl, Nat.le_of_ble_eq_true rfl⟩ rfl (Nat.le_of_ble_eq_true rfl) ?_
    refine e_aload_n (pc := 20) C dX12_feed_20 0 rfl rfl ?_
    refine e_iload_n (pc := 21) C dX12_feed_21 2 rfl rfl ?_
    obtain ⟨w4, y5, hf⟩ := ob_e hf
    refine e_callVv (pc := 22) (st := []) 12 C (pt_X12_put hI y5) dX12_feed_22 (by decide) hI.1 g1662 g1664 g55 g157 g1665 hd_X12_put rfl ⟨Nat.le_of_ble_eq_true rfl, Nat.le_of_ble_eq_true rfl⟩ ⟨Nat.le_of_ble_eq_true rfl, Nat.le_of_ble_eq_true rfl⟩ rfl (Nat.le_of_ble_eq_true rfl) ?_
    refine e_aload_n (pc := 25) C dX12_feed_25 0 rfl rfl ?_
    refine e_iload_n (pc := 26) C dX12_feed_26 3 rfl rfl ?_
    obtain ⟨w6, y7, hf⟩ := ob_e hf
    refine e_callVv (pc := 27) (st := []) 12 C (pt_X12_put hI y7) dX12_feed_27 (by decide) hI.1 g1662 g1664 g55 g157 g1665 hd_X12_put rfl ⟨Nat.le_of_ble_eq_true rfl, Nat.le_of_ble_eq_true rfl⟩ ⟨Nat.le_of_ble_eq_true rfl, Nat.le_of_ble_eq_true rfl⟩ rfl (Nat.le_of_ble_eq_true rfl) ?_
    refine e_aload_n (pc := 30) C dX12_feed_30 0 rfl rfl ?_
    refine e_iload (pc := 31) C dX12_feed_31 4 rfl ?_
    obtain ⟨w8, y9, hf⟩ := ob_e hf
    refine e_callVv (pc := 33) (st := []) 12 C (pt_X12_put hI y9) dX12_feed_33 (by decide) hI.1 g1662 g1664 g55 g157 g1665 hd_X12_put rfl ⟨Nat.le_of_ble_eq_true rfl, Nat.le_of_ble_eq_true rfl⟩ ⟨Nat.le_of_ble_eq_true rfl, Nat.le_of_ble_eq_true rfl⟩ rfl (Nat.le_of_ble_eq_true rfl) ?_
    refine e_aload_n (pc := 36) C dX12_feed_36 0 rfl rfl ?_
    refine e_iload (pc := 37) C dX12_feed_37 5 rfl ?_
    obtain ⟨w10, y11, hf⟩ := ob_e hf
    refine e_callVv (pc := 39) (st := []) 12 C (pt_X12_put hI y11) dX12_feed_39 (by decide) hI.1 g1662 g1664 g55 g157 g1665 hd_X12_put rfl ⟨Nat.le_of_ble_eq_true rfl, Nat.le_of_ble_eq_true rfl⟩ ⟨Nat.le_of_ble_eq_true rfl, Nat.le_of_ble_eq_true rfl⟩ rfl (Nat.le_of_ble_eq_true rfl) ?_
    refine e_aload_n (pc := 42) C dX12_feed_42 0 rfl rfl ?_
    refine q_geti (pc := 43) 32 hI C dX12_feed_43 (by decide) g1433 rfl ?_
    obtain rfl := so_e hf
    exact e_iret (pc := 46) C hr dX12_feed_46 (Nat.le_of_ble_eq_true rfl) (Nat.le_of_ble_eq_true rfl)
  · refine e_icmp_le (pc := 10) (tgt := 15) C dX12_feed_10 (by decide) (fun q => absurd q c1) (fun _ => ?_)
    refine e_iconst (v := (-1 : Int32)) (pc := 13) C dX12_feed_13 (by decide) ?_
    obtain rfl := so_e hf
    exact e_iret (pc := 14) C hr dX12_feed_14 (Nat.le_of_ble_eq_true rfl) (Nat.le_of_ble_eq_true rfl)
theorem dX12_end_0 : decode cX12_end 0 = .ok (.iload_n 1, 1) := by decide +kernel
theorem dX12_end_1 : decode cX12_end 1 = .ok (.ifCond .lt 11, 3) := by decide +kernel
theorem dX12_end_4 : decode cX12_end 4 = .ok (.iload_n 1, 1) := by decide +kernel
theorem dX12_end_5 : decode cX12_end 5 = .ok (.aload_n 0, 1) := by decide +kernel
theorem dX12_end_6 : decode cX12_end 6 = .ok (.getfield 210, 3) := by decide +kernel
theorem dX12_end_9 : decode cX12_end 9 = .ok (.if_icmp .le 5, 3) := by decide +kernel
theorem dX12_end_12 : decode cX12_end 12 = .ok (.iconst (-1), 1) := by decide +kernel
theorem dX12_end_13 : decode cX12_end 13 = .ok (.ireturn, 1) := by decide +kernel
theorem dX12_end_14 : decode cX12_end 14 = .ok (.aload_n 0, 1) := by decide +kernel
theorem dX12_end_15 : decode cX12_end 15 = .ok (.iload_n 1, 1) := by decide +kernel
theorem dX12_end_16 : decode cX12_end 16 = .ok (.putfield 210, 3) := by decide +kernel
theorem dX12_end_19 : decode cX12_end 19 = .ok (.iload_n 1, 1) := by decide +kernel
theorem dX12_end_20 : decode cX12_end 20 = .ok (.ireturn, 1) := by decide +kernel
def p_X12_end (G : GG) (v1 : Int32) (w : MS) : Option (Int32 × MS) :=
if v1 < 0 then (some ((-1 : Int32), w)) else
if v1 ≤ (w.1 0 32) then (nn (w_si w 0 32 v1) fun w3 =>
some (v1, w3)) else
some ((-1 : Int32), w)
set_option maxHeartbeats 4000000 in
set_option maxRecDepth 100000 in
theorem pt_X12_end {G : GG} {l : Launch} {M : Nat} {h : AH} (hI : MI h M) {v1 : Int32} {w : MS} {y : Int32 × MS} (hf : p_X12_end G v1 w = some y) : Ct G l yX12_end cX12_end 2 (some .int) 0 0 0 0 [.ref M, .int v1] (mh h M w) (some (.int y.1), mh h M y.2) := by
  refine ct_of (by decide) (Nat.le_of_ble_eq_true rfl) ?_
  intro p e s m args below meth c C hm hr hin
  have C : Cx G cX12_end RX12 p s m args meth c := C
  refine e_lv (lv2 := [(0, .ref M), (1, .int v1)]) [0, 1] rfl ?_
  unfold p_X12_end at hf
  refine e_iload_n (pc := 0) C dX12_end_0 1 rfl rfl ?_
  rcases it_e hf with ⟨c1, hf⟩ | ⟨c1, hf⟩
  · refine e_if_lt (pc := 1) (tgt := 12) C dX12_end_1 (by decide) (fun _ => ?_) (fun q => absurd c1 q)
    refine e_iconst (v := (-1 : Int32)) (pc := 12) C dX12_end_12 (by decide) ?_
    obtain rfl := so_e hf
    exact e_iret (pc := 13) C hr dX12_end_13 (Nat.le_of_ble_eq_true rfl) (Nat.le_of_ble_eq_true rfl)
  · refine e_if_lt (pc := 1) (tgt := 12) C dX12_end_1 (by decide) (fun q => absurd q c1) (fun _ => ?_)
    refine e_iload_n (pc := 4) C dX12_end_4 1 rfl rfl ?_
    refine e_aload_n (pc := 5) C dX12_end_5 0 rfl rfl ?_
    refine q_geti (pc := 6) 32 hI C dX12_end_6 (by decide) g1433 rfl ?_
    rcases it_e hf with ⟨c2, hf⟩ | ⟨c2, hf⟩
    · refine e_icmp_le (pc := 9) (tgt := 14) C dX12_end_9 (by decide) (fun _ => ?_) (fun q => absurd c2 q)
      refine e_aload_n (pc := 14) C dX12_end_14 0 rfl rfl ?_
      refine e_iload_n (pc := 15) C dX12_end_15 1 rfl rfl ?_
      refine q_puti (pc := 16) 32 hI C dX12_end_16 (by decide) g1433 rfl rfl rfl rfl ?_
      obtain ⟨w3, ew3, hf⟩ := nn_e hf
      refine q_hp ew3 ?_
      refine e_iload_n (pc := 19) C dX12_end_19 1 rfl rfl ?_
      obtain rfl := so_e hf
      exact e_iret (pc := 20) C hr dX12_end_20 (Nat.le_of_ble_eq_true rfl) (Nat.le_of_ble_eq_true rfl)
    · refine e_icmp_le (pc := 9) (tgt := 14) C dX12_end_9 (by decide) (fun q => absurd q c2) (fun _ => ?_)
      refine e_iconst (v := (-1 : Int32)) (pc := 12) C dX12_end_12 (by decide) ?_
      obtain rfl := so_e hf
      exact e_iret (pc := 13) C hr dX12_end_13 (Nat.le_of_ble_eq_true rfl) (Nat.le_of_ble_eq_true rfl)
theorem dX12_wordOf_0 : decode cX12_wordOf 0 = .ok (.iload_n 0, 1) := by decide +kernel
theorem dX12_wordOf_1 : decode cX12_wordOf 1 = .ok (.tableswitch 99 0 11 #[63, 66, 69, 72, 75, 78, 81, 84, 87, 90, 93, 96], 63) := by decide +kernel
theorem dX12_wordOf_64 : decode cX12_wordOf 64 = .ok (.ldc 217, 2) := by decide +kernel
theorem dX12_wordOf_66 : decode cX12_wordOf 66 = .ok (.areturn, 1) := by decide +kernel
theorem dX12_wordOf_67 : decode cX12_wordOf 67 = .ok (.ldc 219, 2) := by decide +kernel
theorem dX12_wordOf_69 : decode cX12_wordOf 69 = .ok (.areturn, 1) := by decide +kernel
theorem dX12_wordOf_70 : decode cX12_wordOf 70 = .ok (.ldc 221, 2) := by decide +kernel
theorem dX12_wordOf_72 : decode cX12_wordOf 72 = .ok (.areturn, 1) := by decide +kernel
theorem dX12_wordOf_73 : decode cX12_wordOf 73 = .ok (.ldc 223, 2) := by decide +kernel
theorem dX12_wordOf_75 : decode cX12_wordOf 75 = .ok (.areturn, 1) := by decide +kernel
theorem dX12_wordOf_76 : decode cX12_wordOf 76 = .ok (.ldc 225, 2) := by decide +kernel
theorem dX12_wordOf_78 : decode cX12_wordOf 78 = .ok (.areturn, 1) := by decide +kernel
theorem dX12_wordOf_79 : decode cX12_wordOf 79 = .ok (.ldc 227, 2) := by decide +kernel
theorem dX12_wordOf_81 : decode cX12_wordOf 81 = .ok (.areturn, 1) := by decide +kernel
theorem dX12_wordOf_82 : decode cX12_wordOf 82 = .ok (.ldc 229, 2) := by decide +kernel
theorem dX12_wordOf_84 : decode cX12_wordOf 84 = .ok (.areturn, 1) := by decide +kernel
theorem dX12_wordOf_85 : decode cX12_wordOf 85 = .ok (.ldc 231, 2) := by decide +kernel
theorem dX12_wordOf_87 : decode cX12_wordOf 87 = .ok (.areturn, 1) := by decide +kernel
theorem dX12_wordOf_88 : decode cX12_wordOf 88 = .ok (.ldc 233, 2) := by decide +kernel
theorem dX12_wordOf_90 : decode cX12_wordOf 90 = .ok (.areturn, 1) := by decide +kernel
theorem dX12_wordOf_91 : decode cX12_wordOf 91 = .ok (.ldc 235, 2) := by decide +kernel
theorem dX12_wordOf_93 : decode cX12_wordOf 93 = .ok (.areturn, 1) := by decide +kernel
theorem dX12_wordOf_94 : decode cX12_wordOf 94 = .ok (.ldc 237, 2) := by decide +kernel
theorem dX12_wordOf_96 : decode cX12_wordOf 96 = .ok (.areturn, 1) := by decide +kernel
theorem dX12_wordOf_97 : decode cX12_wordOf 97 = .ok (.ldc 239, 2) := by decide +kernel
theorem dX12_wordOf_99 : decode cX12_wordOf 99 = .ok (.areturn, 1) := by decide +kernel
theorem dX12_wordOf_100 : decode cX12_wordOf 100 = .ok (.ldc 241, 2) := by decide +kernel
theorem dX12_wordOf_102 : decode cX12_wordOf 102 = .ok (.areturn, 1) := by decide +kernel
def p_X12_wordOf (G : GG) (v0 : Int32) (w : MS) : Option (Nat × MS) :=
if v0 = (0 : Int32) then (some ((G.2.2.2.1 3), w)) else
if v0 = (1 : Int32) then (some ((G.2.2.2.1 10), w)) else
if v0 = (2 : Int32) then (some ((G.2.2.2.1 11), w)) else
if v0 = (3 : Int32) then (some ((G.2.2.2.1 7), w)) else
if v0 = (4 : Int32) then (some ((G.2.2.2.1 12), w)) else
if v0 = (5 : Int32) then (some ((G.2.2.2.1 13), w)) else
if v0 = (6 : Int32) then (some ((G.2.2.2.1 14), w)) else
if v0 = (7 : Int32) then (some ((G.2.2.2.1 15), w)) else
if v0 = (8 : Int32) then (some ((G.2.2.2.1 16), w)) else
if v0 = (9 : Int32) then (some ((G.2.2.2.1 17), w)) else
if v0 = (10 : Int32) then (some ((G.2.2.2.1 18), w)) else
if v0 = (11 : Int32) then (some ((G.2.2.2.1 19), w)) else
some ((G.2.2.2.1 20), w)
set_option maxHeartbeats 4000000 in
set_option maxRecDepth 100000 in
theorem pt_X12_wordOf {G : GG} {l : Launch} {M : Nat} {h : AH} (hI : MI h M) {v0 : Int32} {w : MS} {y : Nat × MS} (hf : p_X12_wordOf G v0 w = some y) : Ct G l yX12_wordOf cX12_wordOf 1 (some (.object "java/lang/String")) 0 0 0 0 [.int v0] (mh h M w) (some (.ref y.1), mh h M y.2) := by
  refine ct_of (by decide) (Nat.le_of_ble_eq_true rfl) ?_
  intro p e s m args below meth c C hm hr hin
  have C : Cx G cX12_wordOf RX12 p s m args meth c := C
  refine e_lv (lv2 := [(0, .int v0)]) [0] rfl ?_
  unfold p_X12_wordOf at hf
  refine e_iload_n (pc := 0) C dX12_wordOf_0 0 rfl rfl ?_
  rcases it_e hf with ⟨c1, hf⟩ | ⟨c1, hf⟩
  · refine e_tabK (pc := 1) (tgt := 64) (0 : Int32) c1 C dX12_wordOf_1 (by decide) (by decide) rfl (by decide) ?_
    refine e_ldcS (pc := 64) C dX12_wordOf_64 3 rfl ?_
    obtain rfl := so_e hf
    exact e_aret (pc := 66) (r := some ((G.2.2.2.1 3))) C hr (by simp) dX12_wordOf_66 (Nat.le_of_ble_eq_true rfl) (Nat.le_of_ble_eq_true rfl)
  rcases it_e hf with ⟨c2, hf⟩ | ⟨c2, hf⟩
  · refine e_tabK (pc := 1) (tgt := 67) (1 : Int32) c2 C dX12_wordOf_1 (by decide) (by decide) rfl (by decide) ?_
    refine e_ldcS (pc := 67) C dX12_wordOf_67 10 rfl ?_
    obtain rfl := so_e hf
    exact e_aret (pc := 69) (r := some ((G.2.2.2.1 10))) C hr (by simp) dX12_wordOf_69 (Nat.le_of_ble_eq_true rfl) (Nat.le_of_ble_eq_true rfl)
  rcases it_e hf with ⟨c3, hf⟩ | ⟨c3, hf⟩
  · refine e_tabK (pc := 1) (tgt := 70) (2 : Int32) c3 C dX12_wordOf_1 (by decide) (by decide) rfl (by decide) ?_
    refine e_ldcS (pc := 70) C dX12_wordOf_70 11 rfl ?_
    obtain rfl := so_e hf
    exact e_aret (pc := 72) (r := some ((G.2.2.2.1 11))) C hr (by simp) dX12_wordOf_72 (Nat.le_of_ble_eq_true rfl) (Nat.le_of_ble_eq_true rfl)
  rcases it_e hf with ⟨c4, hf⟩ | ⟨c4, hf⟩
  · refine e_tabK (pc := 1) (tgt := 73) (3 : Int32) c4 C dX12_wordOf_1 (by decide) (by decide) rfl (by decide) ?_
    refine e_ldcS (pc := 73) C dX12_wordOf_73 7 rfl ?_
    obtain rfl := so_e hf
    exact e_aret (pc := 75) (r := some ((G.2.2.2.1 7))) C hr (by simp) dX12_wordOf_75 (Nat.le_of_ble_eq_true rfl) (Nat.le_of_ble_eq_true rfl)
  rcases it_e hf with ⟨c5, hf⟩ | ⟨c5, hf⟩
  · refine e_tabK (pc := 1) (tgt := 76) (4 : Int32) c5 C dX12_wordOf_1 (by decide) (by decide) rfl (by decide) ?_
    refine e_ldcS (pc := 76) C dX12_wordOf_76 12 rfl ?_
    obtain rfl := so_e hf
    exact e_aret (pc := 78) (r := some ((G.2.2.2.1 12))) C hr (by simp) dX12_wordOf_78 (Nat.le_of_ble_eq_true rfl) (Nat.le_of_ble_eq_true rfl)
  rcases it_e hf with ⟨c6, hf⟩ | ⟨c6, hf⟩
  · refine e_tabK (pc := 1) (tgt := 79) (5 : Int32) c6 C dX12_wordOf_1 (by decide) (by decide) rfl (by decide) ?_
    refine e_ldcS (pc := 79) C dX12_wordOf_79 13 rfl ?_
    obtain rfl := so_e hf
    exact e_aret (pc := 81) (r := some ((G.2.2.2.1 13))) C hr (by simp) dX12_wordOf_81 (Nat.le_of_ble_eq_true rfl) (Nat.le_of_ble_eq_true rfl)
  rcases it_e hf with ⟨c7, hf⟩ | ⟨c7, hf⟩
  · refine e_tabK (pc := 1) (tgt := 82) (6 : Int32) c7 C dX12_wordOf_1 (by decide) (by decide) rfl (by decide) ?_
    refine e_ldcS (pc := 82) C dX12_wordOf_82 14 rfl ?_
    obtain rfl := so_e hf
    exact e_aret (pc := 84) (r := some ((G.2.2.2.1 14))) C hr (by simp) dX12_wordOf_84 (Nat.le_of_ble_eq_true rfl) (Nat.le_of_ble_eq_true rfl)
  rcases it_e hf with ⟨c8, hf⟩ | ⟨c8, hf⟩
  · refine e_tabK (pc := 1) (tgt := 85) (7 : Int32) c8 C dX12_wordOf_1 (by decide) (by decide) rfl (by decide) ?_
    refine e_ldcS (pc := 85) C dX12_wordOf_85 15 rfl ?_
    obtain rfl := so_e hf
    exact e_aret (pc := 87) (r := some ((G.2.2.2.1 15))) C hr (by simp) dX12_wordOf_87 (Nat.le_of_ble_eq_true rfl) (Nat.le_of_ble_eq_true rfl)
  rcases it_e hf with ⟨c9, hf⟩ | ⟨c9, hf⟩
  · refine e_tabK (pc := 1) (tgt := 88) (8 : Int32) c9 C dX12_wordOf_1 (by decide) (by decide) rfl (by decide) ?_
    refine e_ldcS (pc := 88) C dX12_wordOf_88 16 rfl ?_
    obtain rfl := so_e hf
    exact e_aret (pc := 90) (r := some ((G.2.2.2.1 16))) C hr (by simp) dX12_wordOf_90 (Nat.le_of_ble_eq_true rfl) (Nat.le_of_ble_eq_true rfl)
  rcases it_e hf with ⟨c10, hf⟩ | ⟨c10, hf⟩
  · refine e_tabK (pc := 1) (tgt := 91) (9 : Int32) c10 C dX12_wordOf_1 (by decide) (by decide) rfl (by decide) ?_
    refine e_ldcS (pc := 91) C dX12_wordOf_91 17 rfl ?_
    obtain rfl := so_e hf
    exact e_aret (pc := 93) (r := some ((G.2.2.2.1 17))) C hr (by simp) dX12_wordOf_93 (Nat.le_of_ble_eq_true rfl) (Nat.le_of_ble_eq_true rfl)
  rcases it_e hf with ⟨c11, hf⟩ | ⟨c11, hf⟩
  · refine e_tabK (pc := 1) (tgt := 94) (10 : Int32) c11 C dX12_wordOf_1 (by decide) (by decide) rfl (by decide) ?_
    refine e_ldcS (pc := 94) C dX12_wordOf_94 18 rfl ?_
    obtain rfl := so_e hf
    exact e_aret (pc := 96) (r := some ((G.2.2.2.1 18))) C hr (by simp) dX12_wordOf_96 (Nat.le_of_ble_eq_true rfl) (Nat.le_of_ble_eq_true rfl)
  rcases it_e hf with ⟨c12, hf⟩ | ⟨c12, hf⟩
  · refine e_tabK (pc := 1) (tgt := 97) (11 : Int32) c12 C dX12_wordOf_1 (by decide) (by decide) rfl (by decide) ?_
    refine e_ldcS (pc := 97) C dX12_wordOf_97 19 rfl ?_
    obtain rfl := so_e hf
    exact e_aret (pc := 99) (r := some ((G.2.2.2.1 19))) C hr (by simp) dX12_wordOf_99 (Nat.le_of_ble_eq_true rfl) (Nat.le_of_ble_eq_true rfl)
  refine e_tabOut (pc := 1) (tgt := 100) C dX12_wordOf_1 (by have g0 := i_ne 0 (by decide) c1; have g1 := i_ne 1 (by decide) c2; have g2 := i_ne 2 (by decide) c3; have g3 := i_ne 3 (by decide) c4; have g4 := i_ne 4 (by decide) c5; have g5 := i_ne 5 (by decide) c6; have g6 := i_ne 6 (by decide) c7; have g7 := i_ne 7 (by decide) c8; have g8 := i_ne 8 (by decide) c9; have g9 := i_ne 9 (by decide) c10; have g10 := i_ne 10 (by decide) c11; have g11 := i_ne 11 (by decide) c12; omega) (by decide) ?_
  refine e_ldcS (pc := 100) C dX12_wordOf_100 20 rfl ?_
  obtain rfl := so_e hf
  exact e_aret (pc := 102) (r := some ((G.2.2.2.1 20))) C hr (by simp) dX12_wordOf_102 (Nat.le_of_ble_eq_true rfl) (Nat.le_of_ble_eq_true rfl)
theorem dX12_fails_0 : decode cX12_fails 0 = .ok (.aload_n 0, 1) := by decide +kernel
theorem dX12_fails_1 : decode cX12_fails 1 = .ok (.aload_n 0, 1) := by decide +kernel
theorem dX12_fails_2 : decode cX12_fails 2 = .ok (.getfield 243, 3) := by decide +kernel
theorem dX12_fails_5 : decode cX12_fails 5 = .ok (.ifCond .ne 14, 3) := by decide +kernel
theorem dX12_fails_8 : decode cX12_fails 8 = .ok (.iconst 1, 1) := by decide +kernel
theorem dX12_fails_9 : decode cX12_fails 9 = .ok (.bipush 8, 2) := by decide +kernel
theorem dX12_fails_11 : decode cX12_fails 11 = .ok (.iload_n 2, 1) := by decide +kernel
theorem dX12_fails_12 : decode cX12_fails 12 = .ok (.imul, 1) := by decide +kernel
theorem dX12_fails_13 : decode cX12_fails 13 = .ok (.iadd, 1) := by decide +kernel
theorem dX12_fails_14 : decode cX12_fails 14 = .ok (.iload_n 1, 1) := by decide +kernel
theorem dX12_fails_15 : decode cX12_fails 15 = .ok (.iadd, 1) := by decide +kernel
theorem dX12_fails_16 : decode cX12_fails 16 = .ok (.goto 7, 3) := by decide +kernel
theorem dX12_fails_19 : decode cX12_fails 19 = .ok (.aload_n 0, 1) := by decide +kernel
theorem dX12_fails_20 : decode cX12_fails 20 = .ok (.getfield 243, 3) := by decide +kernel
theorem dX12_fails_23 : decode cX12_fails 23 = .ok (.putfield 243, 3) := by decide +kernel
theorem dX12_fails_26 : decode cX12_fails 26 = .ok (.return_, 1) := by decide +kernel
def p_X12_fails (G : GG) (v1 : Int32) (v2 : Int32) (w : MS) : Option (MS) :=
if (w.1 0 34) = 0 then (nn (w_si w 0 34 (((1 : Int32) + ((8 : Int32) * v2)) + v1)) fun w2 =>
some w2) else
nn (w_si w 0 34 (w.1 0 34)) fun w3 =>
some w3
set_option maxHeartbeats 4000000 in
set_option maxRecDepth 100000 in
theorem pt_X12_fails {G : GG} {l : Launch} {M : Nat} {h : AH} (hI : MI h M) {v1 : Int32} {v2 : Int32} {w : MS} {y : MS} (hf : p_X12_fails G v1 v2 w = some y) : Ct G l yX12_fails cX12_fails 3 none 0 0 0 0 [.ref M, .int v1, .int v2] (mh h M w) (none, mh h M y) := by
  refine ct_of (by decide) (Nat.le_of_ble_eq_true rfl) ?_
  intro p e s m args below meth c C hm hr hin
  have C : Cx G cX12_fails RX12 p s m args meth c := C
  refine e_lv (lv2 := [(0, .ref M), (1, .int v1), (2, .int v2)]) [0, 1, 2] rfl ?_
  unfold p_X12_fails at hf
  refine e_aload_n (pc := 0) C dX12_fails_0 0 rfl rfl ?_
  refine e_aload_n (pc := 1) C dX12_fails_1 0 rfl rfl ?_
  refine q_geti (pc := 2) 34 hI C dX12_fails_2 (by decide) g1435 rfl ?_
  rcases it_e hf with ⟨c1, hf⟩ | ⟨c1, hf⟩
  · refine e_if_ne (pc := 5) (tgt := 19) C dX12_fails_5 (by decide) (fun q => absurd c1 q) (fun _ => ?_)
    refine e_iconst (v := (1 : Int32)) (pc := 8) C dX12_fails_8 (by decide) ?_
    refine e_bipush (v := (8 : Int32)) (pc := 9) C dX12_fails_9 (by decide) ?_
    refine e_iload_n (pc := 11) C dX12_fails_11 2 rfl rfl ?_
    refine e_imul (pc := 12) C dX12_fails_12 ?_
    refine e_iadd (pc := 13) C dX12_fails_13 ?_
    refine e_iload_n (pc := 14) C dX12_fails_14 1 rfl rfl ?_
    refine e_iadd (pc := 15) C dX12_fails_15 ?_
    refine e_goto (pc := 16) (tgt := 23) C dX12_fails_16 (by decide) ?_
    refine q_puti (pc := 23) 34 hI C dX12_fails_23 (by decide) g1435 rfl rfl rfl rfl ?_
    obtain ⟨w2, ew2, hf⟩ := nn_e hf
    refine q_hp ew2 ?_
    obtain rfl := so_e hf
    exact e_vret (pc := 26) C hr dX12_fails_26 (Nat.le_of_ble_eq_true rfl) (Nat.le_of_ble_eq_true rfl)
  · refine e_if_ne (pc := 5) (tgt := 19) C dX12_fails_5 (by decide) (fun _ => ?_) (fun q => absurd q c1)
    refine e_aload_n (pc := 19) C dX12_fails_19 0 rfl rfl ?_
    refine q_geti (pc := 20) 34 hI C dX12_fails_20 (by decide) g1435 rfl ?_
    refine q_puti (pc := 23) 34 hI C dX12_fails_23 (by decide) g1435 rfl rfl rfl rfl ?_
    obtain ⟨w3, ew3, hf⟩ := nn_e hf
    refine q_hp ew3 ?_
    obtain rfl := so_e hf
    exact e_vret (pc := 26) C hr dX12_fails_26 (Nat.le_of_ble_eq_true rfl) (Nat.le_of_ble_eq_true rfl)
theorem dX12_sign_0 : decode cX12_sign 0 = .ok (.aload_n 0, 1) := by decide +kernel
theorem dX12_sign_1 : decode cX12_sign 1 = .ok (.getfield 246, 3) := by decide +kernel
theorem dX12_sign_4 : decode cX12_sign 4 = .ok (.aload_n 0, 1) := by decide +kernel
theorem dX12_sign_5 : decode cX12_sign 5 = .ok (.getfield 210, 3) := by decide +kernel
theorem dX12_sign_8 : decode cX12_sign 8 = .ok (.if_icmp .ge 19, 3) := by decide +kernel
theorem dX12_sign_11 : decode cX12_sign 11 = .ok (.aload_n 0, 1) := by decide +kernel
theorem dX12_sign_12 : decode cX12_sign 12 = .ok (.getfield 107, 3) := by decide +kernel
theorem dX12_sign_15 : decode cX12_sign 15 = .ok (.aload_n 0, 1) := by decide +kernel
theorem dX12_sign_16 : decode cX12_sign 16 = .ok (.getfield 246, 3) := by decide +kernel
theorem dX12_sign_19 : decode cX12_sign 19 = .ok (.baload, 1) := by decide +kernel
theorem dX12_sign_20 : decode cX12_sign 20 = .ok (.sipush 255, 3) := by decide +kernel
theorem dX12_sign_23 : decode cX12_sign 23 = .ok (.iand, 1) := by decide +kernel
theorem dX12_sign_24 : decode cX12_sign 24 = .ok (.goto 4, 3) := by decide +kernel
theorem dX12_sign_27 : decode cX12_sign 27 = .ok (.iconst (-1), 1) := by decide +kernel
theorem dX12_sign_28 : decode cX12_sign 28 = .ok (.ireturn, 1) := by decide +kernel
def p_X12_sign (G : GG) (w : MS) : Option (Int32 × MS) :=
if (w.1 0 32) ≤ (w.1 0 33) then (some ((-1 : Int32), w)) else
ck (ixn 400 (w.1 0 33) = true) <|
some ((w.1 42 (w.1 0 33).toNatClampNeg) &&& (255 : Int32), w)
set_option maxHeartbeats 4000000 in
set_option maxRecDepth 100000 in
theorem pt_X12_sign {G : GG} {l : Launch} {M : Nat} {h : AH} (hI : MI h M) {w : MS} {y : Int32 × MS} (hf : p_X12_sign G w = some y) : Ct G l yX12_sign cX12_sign 1 (some .int) 0 0 0 0 [.ref M] (mh h M w) (some (.int y.1), mh h M y.2) := by
  refine ct_of (by decide) (Nat.le_of_ble_eq_true rfl) ?_
  intro p e s m args below meth c C hm hr hin
  have C : Cx G cX12_sign RX12 p s m args meth c := C
  refine e_lv (lv2 := [(0, .ref M)]) [0] rfl ?_
  unfold p_X12_sign at hf
  refine e_aload_n (pc := 0) C dX12_sign_0 0 rfl rfl ?_
  refine q_geti (pc := 1) 33 hI C dX12_sign_1 (by decide) g1434 rfl ?_
  refine e_aload_n (pc := 4) C dX12_sign_4 0 rfl rfl ?_
  refine q_geti (pc := 5) 32 hI C dX12_sign_5 (by decide) g1433 rfl ?_
  rcases it_e hf with ⟨c1, hf⟩ | ⟨c1, hf⟩
  · refine e_icmp_ge (pc := 8) (tgt := 27) C dX12_sign_8 (by decide) (fun _ => ?_) (fun q => absurd c1 q)
    refine e_iconst (v := (-1 : Int32)) (pc := 27) C dX12_sign_27 (by decide) ?_
    obtain rfl := so_e hf
    exact e_iret (pc := 28) C hr dX12_sign_28 (Nat.le_of_ble_eq_true rfl) (Nat.le_of_ble_eq_true rfl)
  · refine e_icmp_ge (pc := 8) (tgt := 27) C dX12_sign_8 (by decide) (fun q => absurd q c1) (fun _ => ?_)
    refine e_aload_n (pc := 11) C dX12_sign_11 0 rfl rfl ?_
    refine q_getr (pc := 12) 42 hI C dX12_sign_12 (by decide) g1443 rfl rfl ?_
    refine e_aload_n (pc := 15) C dX12_sign_15 0 rfl rfl ?_
    refine q_geti (pc := 16) 33 hI C dX12_sign_16 (by decide) g1434 rfl ?_
    obtain ⟨q2, hf⟩ := ck_e hf
    refine q_bald (pc := 19) (k := 42) hI C dX12_sign_19 rfl rfl (ixn_e q2) ?_
    refine e_sipush (v := (255 : Int32)) (pc := 20) C dX12_sign_20 (by decide) ?_
    refine e_iand (pc := 23) C dX12_sign_23 ?_
    refine e_goto (pc := 24) (tgt := 28) C dX12_sign_24 (by decide) ?_
    obtain rfl := so_e hf
    exact e_iret (pc := 28) C hr dX12_sign_28 (Nat.le_of_ble_eq_true rfl) (Nat.le_of_ble_eq_true rfl)
theorem dX12_blanks_0 : decode cX12_blanks 0 = .ok (.aload_n 0, 1) := by decide +kernel
theorem dX12_blanks_1 : decode cX12_blanks 1 = .ok (.invokevirtual 249, 3) := by decide +kernel
theorem dX12_blanks_4 : decode cX12_blanks 4 = .ok (.bipush 32, 2) := by decide +kernel
theorem dX12_blanks_6 : decode cX12_blanks 6 = .ok (.if_icmp .ne 16, 3) := by decide +kernel
theorem dX12_blanks_9 : decode cX12_blanks 9 = .ok (.aload_n 0, 1) := by decide +kernel
theorem dX12_blanks_10 : decode cX12_blanks 10 = .ok (.dup, 1) := by decide +kernel
theorem dX12_blanks_11 : decode cX12_blanks 11 = .ok (.getfield 246, 3) := by decide +kernel
theorem dX12_blanks_14 : decode cX12_blanks 14 = .ok (.iconst 1, 1) := by decide +kernel
theorem dX12_blanks_15 : decode cX12_blanks 15 = .ok (.iadd, 1) := by decide +kernel
theorem dX12_blanks_16 : decode cX12_blanks 16 = .ok (.putfield 246, 3) := by decide +kernel
theorem dX12_blanks_19 : decode cX12_blanks 19 = .ok (.goto (-19), 3) := by decide +kernel
theorem dX12_blanks_22 : decode cX12_blanks 22 = .ok (.return_, 1) := by decide +kernel
def P_X12_blanks_0 (G : GG) (self_0 : MS → Option (MS)) (w : MS) : Option (MS) :=
cw (p_X12_sign G w) fun r3 w1 =>
if r3 = (32 : Int32) then (nn (w_si w1 0 33 ((w1.1 0 33) + (1 : Int32))) fun w5 =>
self_0 w5) else
some w1
def p_X12_blanks (G : GG) (w : MS) : Option (MS) :=
lw0 (P_X12_blanks_0 G ) bN w
set_option maxHeartbeats 4000000 in
set_option maxRecDepth 100000 in
theorem ep_X12_blanks_0 {G : GG} {p : Program} {l : Launch} {e : Env} {s : State} {m : MethodId} {args : Array Value} {below : List Frame} {meth : Method} {c : Code} {y : MS} {M : Nat} {h : AH} (hI : MI h M) (C : Cx G cX12_blanks RX12 p s m args meth c) (hm : c.maxLocals = 1) (hr : meth.sig.returnType = none) (hin : meth.name = yX12_blanks.name)  :
    ∀ (n : Nat) (w : MS), lw0 (P_X12_blanks_0 G) n w = some y → EE G p l e ({ frames := 1, cells := 0, slots := 0, locals := 20 } : Room) s m args below meth c (none, mh h M y) 0 0 0 [(0, .ref M)] [] (mh h M w) 0 0 := by
  intro n
  induction n with
  | zero => intro w hf; exact (no_e hf).elim
  | succ n ih_0 =>
    intro w hf
    have hf : P_X12_blanks_0 G (lw0 (P_X12_blanks_0 G) n) w = some y := hf
    generalize lw0 (P_X12_blanks_0 G) n = self_0 at hf ih_0
    unfold P_X12_blanks_0 at hf
    refine e_aload_n (pc := 0) C dX12_blanks_0 0 rfl rfl ?_
    obtain ⟨r3, w1, y2, hf⟩ := cw_e hf
    refine e_callVi (pc := 1) (st := []) 12 C (pt_X12_sign hI y2) dX12_blanks_1 (by decide) hI.1 g1690 g1692 g60 g157 g1693 hd_X12_sign rfl ⟨Nat.le_of_ble_eq_true rfl, Nat.le_of_ble_eq_true rfl⟩ ⟨Nat.le_of_ble_eq_true rfl, Nat.le_of_ble_eq_true rfl⟩ rfl (Nat.le_of_ble_eq_true rfl) ?_
    refine e_bipush (v := (32 : Int32)) (pc := 4) C dX12_blanks_4 (by decide) ?_
    rcases it_e hf with ⟨c4, hf⟩ | ⟨c4, hf⟩
    · refine e_icmp_ne (pc := 6) (tgt := 22) C dX12_blanks_6 (by decide) (fun q => absurd c4 q) (fun _ => ?_)
      refine e_aload_n (pc := 9) C dX12_blanks_9 0 rfl rfl ?_
      refine e_dup (pc := 10) C dX12_blanks_10 rfl ?_
      refine q_geti (pc := 11) 33 hI C dX12_blanks_11 (by decide) g1434 rfl ?_
      refine e_iconst (v := (1 : Int32)) (pc := 14) C dX12_blanks_14 (by decide) ?_
      refine e_iadd (pc := 15) C dX12_blanks_15 ?_
      refine q_puti (pc := 16) 33 hI C dX12_blanks_16 (by decide) g1434 rfl rfl rfl rfl ?_
      obtain ⟨w5, ew5, hf⟩ := nn_e hf
      refine q_hp ew5 ?_
      refine e_goto (pc := 19) (tgt := 0) C dX12_blanks_19 (by decide) ?_
      exact ih_0 w5 hf
    · refine e_icmp_ne (pc := 6) (tgt := 22) C dX12_blanks_6 (by decide) (fun _ => ?_) (fun q => absurd q c4)
      obtain rfl := so_e hf
      exact e_vret (pc := 22) C hr dX12_blanks_22 (Nat.le_of_ble_eq_true rfl) (Nat.le_of_ble_eq_true rfl)
set_option maxHeartbeats 4000000 in
set_option maxRecDepth 100000 in
theorem pt_X12_blanks {G : GG} {l : Launch} {M : Nat} {h : AH} (hI : MI h M) {w : MS} {y : MS} (hf : p_X12_blanks G w = some y) : Ct G l yX12_blanks cX12_blanks 1 none 1 20 0 0 [.ref M] (mh h M w) (none, mh h M y) := by
  refine ct_of (by decide) (Nat.le_of_ble_eq_true rfl) ?_
  intro p e s m args below meth c C hm hr hin
  have C : Cx G cX12_blanks RX12 p s m args meth c := C
  refine e_lv (lv2 := [(0, .ref M)]) [0] rfl ?_
  unfold p_X12_blanks at hf
  exact ep_X12_blanks_0 hI C hm hr hin bN w hf
theorem dX12_isDigit_0 : decode cX12_isDigit 0 = .ok (.aload_n 0, 1) := by decide +kernel
theorem dX12_isDigit_1 : decode cX12_isDigit 1 = .ok (.invokevirtual 249, 3) := by decide +kernel
theorem dX12_isDigit_4 : decode cX12_isDigit 4 = .ok (.i2l, 1) := by decide +kernel
theorem dX12_isDigit_5 : decode cX12_isDigit 5 = .ok (.ldc2_w 253, 3) := by decide +kernel
theorem dX12_isDigit_8 : decode cX12_isDigit 8 = .ok (.ldc2_w 255, 3) := by decide +kernel
theorem dX12_isDigit_11 : decode cX12_isDigit 11 = .ok (.invokestatic 206, 3) := by decide +kernel
theorem dX12_isDigit_14 : decode cX12_isDigit 14 = .ok (.ireturn, 1) := by decide +kernel
def p_X12_isDigit (G : GG) (w : MS) : Option (Int32 × MS) :=
cw (p_X12_sign G w) fun r3 w1 =>
cw (p_X12_in G r3.toInt64 (48 : Int64) (57 : Int64) w1) fun r6 w4 =>
ck (r6 &&& 1 = r6) <|
some (r6, w4)
set_option maxHeartbeats 4000000 in
set_option maxRecDepth 100000 in
theorem pt_X12_isDigit {G : GG} {l : Launch} {M : Nat} {h : AH} (hI : MI h M) {w : MS} {y : Int32 × MS} (hf : p_X12_isDigit G w = some y) : Ct G l yX12_isDigit cX12_isDigit 1 (some .boolean) 1 25 0 0 [.ref M] (mh h M w) (some (.int y.1), mh h M y.2) := by
  refine ct_of (by decide) (Nat.le_of_ble_eq_true rfl) ?_
  intro p e s m args below meth c C hm hr hin
  have C : Cx G cX12_isDigit RX12 p s m args meth c := C
  refine e_lv (lv2 := [(0, .ref M)]) [0] rfl ?_
  unfold p_X12_isDigit at hf
  refine e_aload_n (pc := 0) C dX12_isDigit_0 0 rfl rfl ?_
  obtain ⟨r3, w1, y2, hf⟩ := cw_e hf
  refine e_callVi (pc := 1) (st := []) 12 C (pt_X12_sign hI y2) dX12_isDigit_1 (by decide) hI.1 g1690 g1692 g60 g157 g1693 hd_X12_sign rfl ⟨Nat.le_of_ble_eq_true rfl, Nat.le_of_ble_eq_true rfl⟩ ⟨Nat.le_of_ble_eq_true rfl, Nat.le_of_ble_eq_true rfl⟩ rfl (Nat.le_of_ble_eq_true rfl) ?_
  refine e_i2l (pc := 4) C dX12_isDigit_4 ?_
  refine e_ldc2 (pc := 5) C dX12_isDigit_5 g1735 ?_
  refine e_ldc2 (pc := 8) C dX12_isDigit_8 g1736 ?_
  obtain ⟨r6, w4, y5, hf⟩ := cw_e hf
  refine e_callSi (pc := 11) (st := []) C (pt_X12_in hI y5) dX12_isDigit_11 g1737 g1738 g157 g1739 hd_X12_in rfl ⟨Nat.le_of_ble_eq_true rfl, Nat.le_of_ble_eq_true rfl⟩ ⟨Nat.le_of_ble_eq_true rfl, Nat.le_of_ble_eq_true rfl⟩ rfl (Nat.le_of_ble_eq_true rfl) ?_
  obtain ⟨q7, hf⟩ := ck_e hf
  obtain rfl := so_e hf
  exact e_zret (pc := 14) (v := r6) C hr (nz_ok q7) dX12_isDigit_14 (Nat.le_of_ble_eq_true rfl) (Nat.le_of_ble_eq_true rfl)
theorem dX12_stood_0 : decode cX12_stood 0 = .ok (.aload_n 0, 1) := by decide +kernel
theorem dX12_stood_1 : decode cX12_stood 1 = .ok (.getfield 246, 3) := by decide +kernel
theorem dX12_stood_4 : decode cX12_stood 4 = .ok (.istore_n 2, 1) := by decide +kernel
theorem dX12_stood_5 : decode cX12_stood 5 = .ok (.iload_n 2, 1) := by decide +kernel
theorem dX12_stood_6 : decode cX12_stood 6 = .ok (.aload_n 0, 1) := by decide +kernel
theorem dX12_stood_7 : decode cX12_stood 7 = .ok (.getfield 210, 3) := by decide +kernel
theorem dX12_stood_10 : decode cX12_stood 10 = .ok (.if_icmp .ge 31, 3) := by decide +kernel
theorem dX12_stood_13 : decode cX12_stood 13 = .ok (.aload_n 0, 1) := by decide +kernel
theorem dX12_stood_14 : decode cX12_stood 14 = .ok (.getfield 107, 3) := by decide +kernel
theorem dX12_stood_17 : decode cX12_stood 17 = .ok (.iload_n 2, 1) := by decide +kernel
theorem dX12_stood_18 : decode cX12_stood 18 = .ok (.baload, 1) := by decide +kernel
theorem dX12_stood_19 : decode cX12_stood 19 = .ok (.bipush 97, 2) := by decide +kernel
theorem dX12_stood_21 : decode cX12_stood 21 = .ok (.if_icmp .lt 20, 3) := by decide +kernel
theorem dX12_stood_24 : decode cX12_stood 24 = .ok (.aload_n 0, 1) := by decide +kernel
theorem dX12_stood_25 : decode cX12_stood 25 = .ok (.getfield 107, 3) := by decide +kernel
theorem dX12_stood_28 : decode cX12_stood 28 = .ok (.iload_n 2, 1) := by decide +kernel
theorem dX12_stood_29 : decode cX12_stood 29 = .ok (.baload, 1) := by decide +kernel
theorem dX12_stood_30 : decode cX12_stood 30 = .ok (.bipush 122, 2) := by decide +kernel
theorem dX12_stood_32 : decode cX12_stood 32 = .ok (.if_icmp .gt 9, 3) := by decide +kernel
theorem dX12_stood_35 : decode cX12_stood 35 = .ok (.iinc 2 1, 3) := by decide +kernel
theorem dX12_stood_38 : decode cX12_stood 38 = .ok (.goto (-33), 3) := by decide +kernel
theorem dX12_stood_41 : decode cX12_stood 41 = .ok (.iload_n 2, 1) := by decide +kernel
theorem dX12_stood_42 : decode cX12_stood 42 = .ok (.aload_n 0, 1) := by decide +kernel
theorem dX12_stood_43 : decode cX12_stood 43 = .ok (.getfield 246, 3) := by decide +kernel
theorem dX12_stood_46 : decode cX12_stood 46 = .ok (.isub, 1) := by decide +kernel
theorem dX12_stood_47 : decode cX12_stood 47 = .ok (.aload_n 1, 1) := by decide +kernel
theorem dX12_stood_48 : decode cX12_stood 48 = .ok (.invokevirtual 257, 3) := by decide +kernel
theorem dX12_stood_51 : decode cX12_stood 51 = .ok (.if_icmp .ne 7, 3) := by decide +kernel
theorem dX12_stood_54 : decode cX12_stood 54 = .ok (.iconst 1, 1) := by decide +kernel
theorem dX12_stood_55 : decode cX12_stood 55 = .ok (.goto 4, 3) := by decide +kernel
theorem dX12_stood_58 : decode cX12_stood 58 = .ok (.iconst 0, 1) := by decide +kernel
theorem dX12_stood_59 : decode cX12_stood 59 = .ok (.istore_n 3, 1) := by decide +kernel
theorem dX12_stood_60 : decode cX12_stood 60 = .ok (.iconst 0, 1) := by decide +kernel
theorem dX12_stood_61 : decode cX12_stood 61 = .ok (.istore 4, 2) := by decide +kernel
theorem dX12_stood_63 : decode cX12_stood 63 = .ok (.iload 4, 2) := by decide +kernel
theorem dX12_stood_65 : decode cX12_stood 65 = .ok (.aload_n 1, 1) := by decide +kernel
theorem dX12_stood_66 : decode cX12_stood 66 = .ok (.invokevirtual 257, 3) := by decide +kernel
theorem dX12_stood_69 : decode cX12_stood 69 = .ok (.if_icmp .ge 40, 3) := by decide +kernel
theorem dX12_stood_72 : decode cX12_stood 72 = .ok (.iload_n 3, 1) := by decide +kernel
theorem dX12_stood_73 : decode cX12_stood 73 = .ok (.ifCond .eq 36, 3) := by decide +kernel
theorem dX12_stood_76 : decode cX12_stood 76 = .ok (.aload_n 0, 1) := by decide +kernel
theorem dX12_stood_77 : decode cX12_stood 77 = .ok (.getfield 107, 3) := by decide +kernel
theorem dX12_stood_80 : decode cX12_stood 80 = .ok (.aload_n 0, 1) := by decide +kernel
theorem dX12_stood_81 : decode cX12_stood 81 = .ok (.getfield 246, 3) := by decide +kernel
theorem dX12_stood_84 : decode cX12_stood 84 = .ok (.iload 4, 2) := by decide +kernel
theorem dX12_stood_86 : decode cX12_stood 86 = .ok (.iadd, 1) := by decide +kernel
theorem dX12_stood_87 : decode cX12_stood 87 = .ok (.baload, 1) := by decide +kernel
theorem dX12_stood_88 : decode cX12_stood 88 = .ok (.aload_n 1, 1) := by decide +kernel
theorem dX12_stood_89 : decode cX12_stood 89 = .ok (.iload 4, 2) := by decide +kernel
theorem dX12_stood_91 : decode cX12_stood 91 = .ok (.invokevirtual 262, 3) := by decide +kernel
theorem dX12_stood_94 : decode cX12_stood 94 = .ok (.if_icmp .ne 7, 3) := by decide +kernel
theorem dX12_stood_97 : decode cX12_stood 97 = .ok (.iconst 1, 1) := by decide +kernel
theorem dX12_stood_98 : decode cX12_stood 98 = .ok (.goto 4, 3) := by decide +kernel
theorem dX12_stood_101 : decode cX12_stood 101 = .ok (.iconst 0, 1) := by decide +kernel
theorem dX12_stood_102 : decode cX12_stood 102 = .ok (.istore_n 3, 1) := by decide +kernel
theorem dX12_stood_103 : decode cX12_stood 103 = .ok (.iinc 4 1, 3) := by decide +kernel
theorem dX12_stood_106 : decode cX12_stood 106 = .ok (.goto (-43), 3) := by decide +kernel
theorem dX12_stood_109 : decode cX12_stood 109 = .ok (.iload_n 3, 1) := by decide +kernel
theorem dX12_stood_110 : decode cX12_stood 110 = .ok (.ireturn, 1) := by decide +kernel
def P_X12_stood_5 (G : GG) (v1 : Nat) (K_41 : Int32 → MS → Option (Int32 × MS)) (self_5 : Int32 → MS → Option (Int32 × MS)) (v2 : Int32) (w : MS) : Option (Int32 × MS) :=
if (w.1 0 32) ≤ v2 then (K_41 v2 w) else
ck (ixn 400 v2 = true) <|
if (w.1 42 v2.toNatClampNeg) < (97 : Int32) then (K_41 v2 w) else
ck (ixn 400 v2 = true) <|
if (122 : Int32) < (w.1 42 v2.toNatClampNeg) then (K_41 v2 w) else
nn (v2 + (1 : Int32)) fun x7 =>
self_5 x7 w
def P_X12_stood_63 (G : GG) (v1 : Nat) (self_63 : Int32 → Int32 → MS → Option (Int32 × MS)) (v3 : Int32) (v4 : Int32) (w : MS) : Option (Int32 × MS) :=
cw (p_J0_length_8abf5 G v1 w) fun r13 w11 =>
if r13 ≤ v4 then (ck (v3 &&& 1 = v3) <|
some (v3, w11)) else
if v3 = 0 then (ck (v3 &&& 1 = v3) <|
some (v3, w11)) else
ck (ixn 400 ((w11.1 0 33) + v4) = true) <|
cw (p_J0_charAt_5068e G v1 v4 w11) fun r21 w19 =>
nn (fun (s0_102 : Int32) => (nn (v4 + (1 : Int32)) fun x22 =>
self_63 s0_102 x22 w19)) fun j_102 =>
if (w11.1 42 ((w11.1 0 33) + v4).toNatClampNeg) = r21 then (j_102 (1 : Int32)) else
j_102 (0 : Int32)
def p_X12_stood (G : GG) (v1 : Nat) (w : MS) : Option (Int32 × MS) :=
nn (w.1 0 33) fun x1 =>
lw1 (P_X12_stood_5 G v1 (fun (v2_41 : Int32) (h_41 : MS) => (cw (p_J0_length_8abf5 G v1 h_41) fun r10 w8 =>
nn (fun (s0_59 : Int32) => (lw2 (P_X12_stood_63 G v1 ) bN s0_59 (0 : Int32) w8)) fun j_59 =>
if (v2_41 - (h_41.1 0 33)) = r10 then (j_59 (1 : Int32)) else
j_59 (0 : Int32)))) bN x1 w
set_option maxHeartbeats 4000000 in
set_option maxRecDepth 100000 in
theorem ep_X12_stood_5 {G : GG} {p : Program} {l : Launch} {e : Env} {s : State} {m : MethodId} {args : Array Value} {below : List Frame} {meth : Method} {c : Code} {y : Int32 × MS} {M : Nat} {h : AH} (hI : MI h M) (C : Cx G cX12_stood RX12 p s m args meth c) (hm : c.maxLocals = 5) (hr : meth.sig.returnType = (some .boolean)) (hin : meth.name = yX12_stood.name) {v1 : Nat} {K_41 : Int32 → MS → Option (Int32 × MS)} (hK_41 : ∀ (u2 : Int32) (w : MS), K_41 u2 w = some y → EE G p l e ({ frames := 4, cells := 0, slots := 0, locals := 85 } : Room) s m args below meth c (some (.int y.1), mh h M y.2) 0 0 41 [(0, .ref M), (1, .ref v1), (2, .int u2)] [] (mh h M w) 0 0) :
    ∀ (n : Nat) (v2 : Int32) (w : MS), lw1 (P_X12_stood_5 G v1 K_41) n v2 w = some y → EE G p l e ({ frames := 4, cells := 0, slots := 0, locals := 85 } : Room) s m args below meth c (some (.int y.1), mh h M y.2) 0 0 5 [(0, .ref M), (1, .ref v1), (2, .int v2)] [] (mh h M w) 0 0 := by
  intro n
  induction n with
  | zero => intro v2 w hf; exact (no_e hf).elim
  | succ n ih_5 =>
    intro v2 w hf
    have hf : P_X12_stood_5 G v1 K_41 (lw1 (P_X12_stood_5 G v1 K_41) n) v2 w = some y := hf
    generalize lw1 (P_X12_stood_5 G v1 K_41) n = self_5 at hf ih_5
    unfold P_X12_stood_5 at hf
    refine e_iload_n (pc := 5) C dX12_stood_5 2 rfl rfl ?_
    refine e_aload_n (pc := 6) C dX12_stood_6 0 rfl rfl ?_
    refine q_geti (pc := 7) 32 hI C dX12_stood_7 (by decide) g1433 rfl ?_
    rcases it_e hf with ⟨c2, hf⟩ | ⟨c2, hf⟩
    · refine e_icmp_ge (pc := 10) (tgt := 41) C dX12_stood_10 (by decide) (fun _ => ?_) (fun q => absurd c2 q)
      exact hK_41 v2 w hf
    · refine e_icmp_ge (pc := 10) (tgt := 41) C dX12_stood_10 (by decide) (fun q => absurd q c2) (fun _ => ?_)
      refine e_aload_n (pc := 13) C dX12_stood_13 0 rfl rfl ?_
      refine q_getr (pc := 14) 42 hI C dX12_stood_14 (by decide) g1443 rfl rfl ?_
      refine e_iload_n (pc := 17) C dX12_stood_17 2 rfl rfl ?_
      obtain ⟨q3, hf⟩ := ck_e hf
      refine q_bald (pc := 18) (k := 42) hI C dX12_stood_18 rfl rfl (ixn_e q3) ?_
      refine e_bipush (v := (97 : Int32)) (pc := 19) C dX12_stood_19 (by decide) ?_
      rcases it_e hf with ⟨c4, hf⟩ | ⟨c4, hf⟩
      · refine e_icmp_lt (pc := 21) (tgt := 41) C dX12_stood_21 (by decide) (fun _ => ?_) (fun q => absurd c4 q)
        exact hK_41 v2 w hf
      · refine e_icmp_lt (pc := 21) (tgt := 41) C dX12_stood_21 (by decide) (fun q => absurd q c4) (fun _ => ?_)
        refine e_aload_n (pc := 24) C dX12_stood_24 0 rfl rfl ?_
        refine q_getr (pc := 25) 42 hI C dX12_stood_25 (by decide) g1443 rfl rfl ?_
        refine e_iload_n (pc := 28) C dX12_stood_28 2 rfl rfl ?_
        obtain ⟨q5, hf⟩ := ck_e hf
        refine q_bald (pc := 29) (k := 42) hI C dX12_stood_29 rfl rfl (ixn_e q5) ?_
        refine e_bipush (v := (122 : Int32)) (pc := 30) C dX12_stood_30 (by decide) ?_
        rcases it_e hf with ⟨c6, hf⟩ | ⟨c6, hf⟩
        · refine e_icmp_gt (pc := 32) (tgt := 41) C dX12_stood_32 (by decide) (fun _ => ?_) (fun q => absurd c6 q)
          exact hK_41 v2 w hf
        · refine e_icmp_gt (pc := 32) (tgt := 41) C dX12_stood_32 (by decide) (fun q => absurd q c6) (fun _ => ?_)
          obtain ⟨x7, ex7, hf⟩ := nn_e hf
          refine e_iinc (pc := 35) (v := x7) (lv2 := [(2, .int x7), (0, .ref M), (1, .ref v1)]) C hm dX12_stood_35 2 rfl (by rw [ex7]; rfl) (by decide) rfl ?_
          refine e_goto (pc := 38) (tgt := 5) C dX12_stood_38 (by decide) ?_
          refine e_lv (lv2 := [(0, .ref M), (1, .ref v1), (2, .int x7)]) [1, 2, 0] rfl ?_
          exact ih_5 x7 w hf
set_option maxHeartbeats 4000000 in
set_option maxRecDepth 100000 in
theorem ep_X12_stood_63 {G : GG} {p : Program} {l : Launch} {e : Env} {s : State} {m : MethodId} {args : Array Value} {below : List Frame} {meth : Method} {c : Code} {y : Int32 × MS} {M : Nat} {h : AH} (hI : MI h M) (C : Cx G cX12_stood RX12 p s m args meth c) (hm : c.maxLocals = 5) (hr : meth.sig.returnType = (some .boolean)) (hin : meth.name = yX12_stood.name) {v1 : Nat}  :
    ∀ (n : Nat) (v3 : Int32) (v4 : Int32) (w : MS), lw2 (P_X12_stood_63 G v1) n v3 v4 w = some y → EE G p l e ({ frames := 4, cells := 0, slots := 0, locals := 85 } : Room) s m args below meth c (some (.int y.1), mh h M y.2) 0 0 63 [(0, .ref M), (1, .ref v1), (3, .int v3), (4, .int v4)] [] (mh h M w) 0 0 := by
  intro n
  induction n with
  | zero => intro v3 v4 w hf; exact (no_e hf).elim
  | succ n ih_63 =>
    intro v3 v4 w hf
    have hf : P_X12_stood_63 G v1 (lw2 (P_X12_stood_63 G v1) n) v3 v4 w = some y := hf
    generalize lw2 (P_X12_stood_63 G v1) n = self_63 at hf ih_63
    unfold P_X12_stood_63 at hf
    refine e_iload (pc := 63) C dX12_stood_63 3 rfl ?_
    refine e_aload_n (pc := 65) C dX12_stood_65 1 rfl rfl ?_
    obtain ⟨r13, w11, y12, hf⟩ := cw_e hf
    refine e_callK (pc := 66) (st := [.int v4]) (sq_J0_length_8abf5 (pf_J0_length_8abf5 (h := h) (M := M) y12)) C (ct_J0_length_8abf5 (pf_J0_length_8abf5 (h := h) (M := M) y12)) dX12_stood_66 g1708 g663 g664 g158 g665 hd_J0_length_8abf5 rfl ⟨Nat.le_of_ble_eq_true rfl, Nat.le_of_ble_eq_true rfl⟩ ⟨Nat.le_of_ble_eq_true rfl, Nat.le_of_ble_eq_true rfl⟩ rfl (Nat.le_of_ble_eq_true rfl) ?_
    rcases it_e hf with ⟨c14, hf⟩ | ⟨c14, hf⟩
    · refine e_icmp_ge (pc := 69) (tgt := 109) C dX12_stood_69 (by decide) (fun _ => ?_) (fun q => absurd c14 q)
      refine e_iload_n (pc := 109) C dX12_stood_109 2 rfl rfl ?_
      obtain ⟨q15, hf⟩ := ck_e hf
      obtain rfl := so_e hf
      exact e_zret (pc := 110) (v := v3) C hr (nz_ok q15) dX12_stood_110 (Nat.le_of_ble_eq_true rfl) (Nat.le_of_ble_eq_true rfl)
    · refine e_icmp_ge (pc := 69) (tgt := 109) C dX12_stood_69 (by decide) (fun q => absurd q c14) (fun _ => ?_)
      refine e_iload_n (pc := 72) C dX12_stood_72 2 rfl rfl ?_
      rcases it_e hf with ⟨c16, hf⟩ | ⟨c16, hf⟩
      · refine e_if_eq (pc := 73) (tgt := 109) C dX12_stood_73 (by decide) (fun _ => ?_) (fun q => absurd c16 q)
        refine e_iload_n (pc := 109) C dX12_stood_109 2 rfl rfl ?_
        obtain ⟨q17, hf⟩ := ck_e hf
        obtain rfl := so_e hf
        exact e_zret (pc := 110) (v := v3) C hr (nz_ok q17) dX12_stood_110 (Nat.le_of_ble_eq_true rfl) (Nat.le_of_ble_eq_true rfl)
      · refine e_if_eq (pc := 73) (tgt := 109) C dX12_stood_73 (by decide) (fun q => absurd q c16) (fun _ => ?_)
        refine e_aload_n (pc := 76) C dX12_stood_76 0 rfl rfl ?_
        refine q_getr (pc := 77) 42 hI C dX12_stood_77 (by decide) g1443 rfl rfl ?_
        refine e_aload_n (pc := 80) C dX12_stood_80 0 rfl rfl ?_
        refine q_geti (pc := 81) 33 hI C dX12_stood_81 (by decide) g1434 rfl ?_
        refine e_iload (pc := 84) C dX12_stood_84 3 rfl ?_
        refine e_iadd (pc := 86) C dX12_stood_86 ?_
        obtain ⟨q18, hf⟩ := ck_e hf
        refine q_bald (pc := 87) (k := 42) hI C dX12_stood_87 rfl rfl (ixn_e q18) ?_
        refine e_aload_n (pc := 88) C dX12_stood_88 1 rfl rfl ?_
        refine e_iload (pc := 89) C dX12_stood_89 3 rfl ?_
        obtain ⟨r21, w19, y20, hf⟩ := cw_e hf
        refine e_callK (pc := 91) (st := [.int (w11.1 42 ((w11.1 0 33) + v4).toNatClampNeg)]) (sq_J0_charAt_5068e (pf_J0_charAt_5068e (h := h) (M := M) y20)) C (ct_J0_charAt_5068e (pf_J0_charAt_5068e (h := h) (M := M) y20)) dX12_stood_91 g1709 g677 g678 g158 g679 hd_J0_charAt_5068e rfl ⟨Nat.le_of_ble_eq_true rfl, Nat.le_of_ble_eq_true rfl⟩ ⟨Nat.le_of_ble_eq_true rfl, Nat.le_of_ble_eq_true rfl⟩ rfl (Nat.le_of_ble_eq_true rfl) ?_
        obtain ⟨j_102, ej_102, hf⟩ := nn_e hf
        have W_102 : ∀ (s0_102 : Int32), j_102 s0_102 = some y → EE G p l e ({ frames := 4, cells := 0, slots := 0, locals := 85 } : Room) s m args below meth c (some (.int y.1), mh h M y.2) 0 0 102 [(0, .ref M), (1, .ref v1), (4, .int v4)] [.int s0_102] (mh h M w19) 0 0 := by
          intro s0_102 hf
          rw [ej_102] at hf
          refine e_istore_n (pc := 102) (lv2 := [(3, .int s0_102), (0, .ref M), (1, .ref v1), (4, .int v4)]) C hm dX12_stood_102 rfl (by decide) rfl ?_
          obtain ⟨x22, ex22, hf⟩ := nn_e hf
          refine e_iinc (pc := 103) (v := x22) (lv2 := [(4, .int x22), (3, .int s0_102), (0, .ref M), (1, .ref v1)]) C hm dX12_stood_103 3 rfl (by rw [ex22]; rfl) (by decide) rfl ?_
          refine e_goto (pc := 106) (tgt := 63) C dX12_stood_106 (by decide) ?_
          refine e_lv (lv2 := [(0, .ref M), (1, .ref v1), (3, .int s0_102), (4, .int x22)]) [2, 3, 1, 0] rfl ?_
          exact ih_63 s0_102 x22 w19 hf
        rcases it_e hf with ⟨c23, hf⟩ | ⟨c23, hf⟩
        · refine e_icmp_ne (pc := 94) (tgt := 101) C dX12_stood_94 (by decide) (fun q => absurd c23 q) (fun _ => ?_)
          refine e_iconst (v := (1 : Int32)) (pc := 97) C dX12_stood_97 (by decide) ?_
          refine e_goto (pc := 98) (tgt := 102) C dX12_stood_98 (by decide) ?_
          refine e_lv (lv2 := [(0, .ref M), (1, .ref v1), (4, .int v4)]) [0, 1, 3] rfl ?_
          exact W_102 (1 : Int32) hf
        · refine e_icmp_ne (pc := 94) (tgt := 101) C dX12_stood_94 (by decide) (fun _ => ?_) (fun q => absurd q c23)
          refine e_iconst (v := (0 : Int32)) (pc := 101) C dX12_stood_101 (by decide) ?_
          refine e_lv (lv2 := [(0, .ref M), (1, .ref v1), (4, .int v4)]) [0, 1, 3] rfl ?_
          exact W_102 (0 : Int32) hf
set_option maxHeartbeats 4000000 in
set_option maxRecDepth 100000 in
theorem pt_X12_stood {G : GG} {l : Launch} {M : Nat} {h : AH} (hI : MI h M) {v1 : Nat} {w : MS} {y : Int32 × MS} (hf : p_X12_stood G v1 w = some y) : Ct G l yX12_stood cX12_stood 5 (some .boolean) 4 85 0 0 [.ref M, .ref v1] (mh h M w) (some (.int y.1), mh h M y.2) := by
  refine ct_of (by decide) (Nat.le_of_ble_eq_true rfl) ?_
  intro p e s m args below meth c C hm hr hin
  have C : Cx G cX12_stood RX12 p s m args meth c := C
  refine e_lv (lv2 := [(0, .ref M), (1, .ref v1)]) [0, 1] rfl ?_
  unfold p_X12_stood at hf
  refine e_aload_n (pc := 0) C dX12_stood_0 0 rfl rfl ?_
  refine q_geti (pc := 1) 33 hI C dX12_stood_1 (by decide) g1434 rfl ?_
  obtain ⟨x1, ex1, hf⟩ := nn_e hf
  refine e_topi ex1 ?_
  refine e_istore_n (pc := 4) (lv2 := [(2, .int x1), (0, .ref M), (1, .ref v1)]) C hm dX12_stood_4 rfl (by decide) rfl ?_
  refine e_lv (lv2 := [(0, .ref M), (1, .ref v1), (2, .int x1)]) [1, 2, 0] rfl ?_
  refine ep_X12_stood_5 hI C hm hr hin (fun v2_41 h_41 hf => ?_) bN x1 w hf
  refine e_iload_n (pc := 41) C dX12_stood_41 2 rfl rfl ?_
  refine e_aload_n (pc := 42) C dX12_stood_42 0 rfl rfl ?_
  refine q_geti (pc := 43) 33 hI C dX12_stood_43 (by decide) g1434 rfl ?_
  refine e_isub (pc := 46) C dX12_stood_46 ?_
  refine e_aload_n (pc := 47) C dX12_stood_47 1 rfl rfl ?_
  obtain ⟨r10, w8, y9, hf⟩ := cw_e hf
  refine e_callK (pc := 48) (st := [.int (v2_41 - (h_41.1 0 33))]) (sq_J0_length_8abf5 (pf_J0_length_8abf5 (h := h) (M := M) y9)) C (ct_J0_length_8abf5 (pf_J0_length_8abf5 (h := h) (M := M) y9)) dX12_stood_48 g1708 g663 g664 g158 g665 hd_J0_length_8abf5 rfl ⟨Nat.le_of_ble_eq_true rfl, Nat.le_of_ble_eq_true rfl⟩ ⟨Nat.le_of_ble_eq_true rfl, Nat.le_of_ble_eq_true rfl⟩ rfl (Nat.le_of_ble_eq_true rfl) ?_
  obtain ⟨j_59, ej_59, hf⟩ := nn_e hf
  have W_59 : ∀ (s0_59 : Int32), j_59 s0_59 = some y → EE G p l e ({ frames := 4, cells := 0, slots := 0, locals := 85 } : Room) s m args below meth c (some (.int y.1), mh h M y.2) 0 0 59 [(0, .ref M), (1, .ref v1)] [.int s0_59] (mh h M w8) 0 0 := by
    intro s0_59 hf
    rw [ej_59] at hf
    refine e_istore_n (pc := 59) (lv2 := [(3, .int s0_59), (0, .ref M), (1, .ref v1)]) C hm dX12_stood_59 rfl (by decide) rfl ?_
    refine e_iconst (v := (0 : Int32)) (pc := 60) C dX12_stood_60 (by decide) ?_
    refine e_istore (pc := 61) (lv2 := [(4, .int (0 : Int32)), (3, .int s0_59), (0, .ref M), (1, .ref v1)]) C hm dX12_stood_61 (by decide) rfl ?_
    refine e_lv (lv2 := [(0, .ref M), (1, .ref v1), (3, .int s0_59), (4, .int (0 : Int32))]) [2, 3, 1, 0] rfl ?_
    exact ep_X12_stood_63 hI C hm hr hin bN s0_59 (0 : Int32) w8 hf
  rcases it_e hf with ⟨c24, hf⟩ | ⟨c24, hf⟩
  · refine e_icmp_ne (pc := 51) (tgt := 58) C dX12_stood_51 (by decide) (fun q => absurd c24 q) (fun _ => ?_)
    refine e_iconst (v := (1 : Int32)) (pc := 54) C dX12_stood_54 (by decide) ?_
    refine e_goto (pc := 55) (tgt := 59) C dX12_stood_55 (by decide) ?_
    refine e_lv (lv2 := [(0, .ref M), (1, .ref v1)]) [0, 1] rfl ?_
    exact W_59 (1 : Int32) hf
  · refine e_icmp_ne (pc := 51) (tgt := 58) C dX12_stood_51 (by decide) (fun _ => ?_) (fun q => absurd q c24)
    refine e_iconst (v := (0 : Int32)) (pc := 58) C dX12_stood_58 (by decide) ?_
    refine e_lv (lv2 := [(0, .ref M), (1, .ref v1)]) [0, 1] rfl ?_
    exact W_59 (0 : Int32) hf
theorem dX12_takes_0 : decode cX12_takes 0 = .ok (.aload_n 0, 1) := by decide +kernel
theorem dX12_takes_1 : decode cX12_takes 1 = .ok (.invokevirtual 266, 3) := by decide +kernel
theorem dX12_takes_4 : decode cX12_takes 4 = .ok (.aload_n 0, 1) := by decide +kernel
theorem dX12_takes_5 : decode cX12_takes 5 = .ok (.aload_n 1, 1) := by decide +kernel
theorem dX12_takes_6 : decode cX12_takes 6 = .ok (.invokevirtual 269, 3) := by decide +kernel
theorem dX12_takes_9 : decode cX12_takes 9 = .ok (.istore_n 2, 1) := by decide +kernel
theorem dX12_takes_10 : decode cX12_takes 10 = .ok (.aload_n 0, 1) := by decide +kernel
theorem dX12_takes_11 : decode cX12_takes 11 = .ok (.dup, 1) := by decide +kernel
theorem dX12_takes_12 : decode cX12_takes 12 = .ok (.getfield 246, 3) := by decide +kernel
theorem dX12_takes_15 : decode cX12_takes 15 = .ok (.iload_n 2, 1) := by decide +kernel
theorem dX12_takes_16 : decode cX12_takes 16 = .ok (.ifCond .eq 10, 3) := by decide +kernel
theorem dX12_takes_19 : decode cX12_takes 19 = .ok (.aload_n 1, 1) := by decide +kernel
theorem dX12_takes_20 : decode cX12_takes 20 = .ok (.invokevirtual 257, 3) := by decide +kernel
theorem dX12_takes_23 : decode cX12_takes 23 = .ok (.goto 4, 3) := by decide +kernel
theorem dX12_takes_26 : decode cX12_takes 26 = .ok (.iconst 0, 1) := by decide +kernel
theorem dX12_takes_27 : decode cX12_takes 27 = .ok (.iadd, 1) := by decide +kernel
theorem dX12_takes_28 : decode cX12_takes 28 = .ok (.putfield 246, 3) := by decide +kernel
theorem dX12_takes_31 : decode cX12_takes 31 = .ok (.iload_n 2, 1) := by decide +kernel
theorem dX12_takes_32 : decode cX12_takes 32 = .ok (.ireturn, 1) := by decide +kernel
def p_X12_takes (G : GG) (v1 : Nat) (w : MS) : Option (Int32 × MS) :=
ob (p_X12_blanks G w) fun w1 =>
cw (p_X12_stood G v1 w1) fun r5 w3 =>
if r5 = 0 then (nn (w_si w3 0 33 ((w3.1 0 33) + (0 : Int32))) fun w7 =>
ck (r5 &&& 1 = r5) <|
some (r5, w7)) else
cw (p_J0_length_8abf5 G v1 w3) fun r11 w9 =>
nn (w_si w9 0 33 ((w3.1 0 33) + r11)) fun w12 =>
ck (r5 &&& 1 = r5) <|
some (r5, w12)
set_option maxHeartbeats 4000000 in
set_option maxRecDepth 100000 in
theorem pt_X12_takes {G : GG} {l : Launch} {M : Nat} {h : AH} (hI : MI h M) {v1 : Nat} {w : MS} {y : Int32 × MS} (hf : p_X12_takes G v1 w = some y) : Ct G l yX12_takes cX12_takes 3 (some .boolean) 5 109 0 0 [.ref M, .ref v1] (mh h M w) (some (.int y.1), mh h M y.2) := by
  refine ct_of (by decide) (Nat.le_of_ble_eq_true rfl) ?_
  intro p e s m args below meth c C hm hr hin
  have C : Cx G cX12_takes RX12 p s m args meth c := C
  refine e_lv (lv2 := [(0, .ref M), (1, .ref v1)]) [0, 1] rfl ?_
  unfold p_X12_takes at hf
  refine e_aload_n (pc := 0) C dX12_takes_0 0 rfl rfl ?_
  obtain ⟨w1, y2, hf⟩ := ob_e hf
  refine e_callVv (pc := 1) (st := []) 12 C (pt_X12_blanks hI y2) dX12_takes_1 (by decide) hI.1 g1686 g1688 g59 g157 g1689 hd_X12_blanks rfl ⟨Nat.le_of_ble_eq_true rfl, Nat.le_of_ble_eq_true rfl⟩ ⟨Nat.le_of_ble_eq_true rfl, Nat.le_of_ble_eq_true rfl⟩ rfl (Nat.le_of_ble_eq_true rfl) ?_
  refine e_aload_n (pc := 4) C dX12_takes_4 0 rfl rfl ?_
  refine e_aload_n (pc := 5) C dX12_takes_5 1 rfl rfl ?_
  obtain ⟨r5, w3, y4, hf⟩ := cw_e hf
  refine e_callVi (pc := 6) (st := []) 12 C (pt_X12_stood hI y4) dX12_takes_6 (by decide) hI.1 g1704 g1706 g61 g157 g1707 hd_X12_stood rfl ⟨Nat.le_of_ble_eq_true rfl, Nat.le_of_ble_eq_true rfl⟩ ⟨Nat.le_of_ble_eq_true rfl, Nat.le_of_ble_eq_true rfl⟩ rfl (Nat.le_of_ble_eq_true rfl) ?_
  refine e_istore_n (pc := 9) (lv2 := [(2, .int r5), (0, .ref M), (1, .ref v1)]) C hm dX12_takes_9 rfl (by decide) rfl ?_
  refine e_aload_n (pc := 10) C dX12_takes_10 1 rfl rfl ?_
  refine e_dup (pc := 11) C dX12_takes_11 rfl ?_
  refine q_geti (pc := 12) 33 hI C dX12_takes_12 (by decide) g1434 rfl ?_
  refine e_iload_n (pc := 15) C dX12_takes_15 0 rfl rfl ?_
  rcases it_e hf with ⟨c6, hf⟩ | ⟨c6, hf⟩
  · refine e_if_eq (pc := 16) (tgt := 26) C dX12_takes_16 (by decide) (fun _ => ?_) (fun q => absurd c6 q)
    refine e_iconst (v := (0 : Int32)) (pc := 26) C dX12_takes_26 (by decide) ?_
    refine e_iadd (pc := 27) C dX12_takes_27 ?_
    refine q_puti (pc := 28) 33 hI C dX12_takes_28 (by decide) g1434 rfl rfl rfl rfl ?_
    obtain ⟨w7, ew7, hf⟩ := nn_e hf
    refine q_hp ew7 ?_
    refine e_iload_n (pc := 31) C dX12_takes_31 0 rfl rfl ?_
    obtain ⟨q8, hf⟩ := ck_e hf
    obtain rfl := so_e hf
    exact e_zret (pc := 32) (v := r5) C hr (nz_ok q8) dX12_takes_32 (Nat.le_of_ble_eq_true rfl) (Nat.le_of_ble_eq_true rfl)
  · refine e_if_eq (pc := 16) (tgt := 26) C dX12_takes_16 (by decide) (fun q => absurd q c6) (fun _ => ?_)
    refine e_aload_n (pc := 19) C dX12_takes_19 2 rfl rfl ?_
    obtain ⟨r11, w9, y10, hf⟩ := cw_e hf
    refine e_callK (pc := 20) (st := [.int (w3.1 0 33), .ref M]) (sq_J0_length_8abf5 (pf_J0_length_8abf5 (h := h) (M := M) y10)) C (ct_J0_length_8abf5 (pf_J0_length_8abf5 (h := h) (M := M) y10)) dX12_takes_20 g1708 g663 g664 g158 g665 hd_J0_length_8abf5 rfl ⟨Nat.le_of_ble_eq_true rfl, Nat.le_of_ble_eq_true rfl⟩ ⟨Nat.le_of_ble_eq_true rfl, Nat.le_of_ble_eq_true rfl⟩ rfl (Nat.le_of_ble_eq_true rfl) ?_
    refine e_goto (pc := 23) (tgt := 27) C dX12_takes_23 (by decide) ?_
    refine e_iadd (pc := 27) C dX12_takes_27 ?_
    refine q_puti (pc := 28) 33 hI C dX12_takes_28 (by decide) g1434 rfl rfl rfl rfl ?_
    obtain ⟨w12, ew12, hf⟩ := nn_e hf
    refine q_hp ew12 ?_
    refine e_iload_n (pc := 31) C dX12_takes_31 0 rfl rfl ?_
    obtain ⟨q13, hf⟩ := ck_e hf
    obtain rfl := so_e hf
    exact e_zret (pc := 32) (v := r5) C hr (nz_ok q13) dX12_takes_32 (Nat.le_of_ble_eq_true rfl) (Nat.le_of_ble_eq_true rfl)
theorem dX12_entry_0 : decode cX12_entry 0 = .ok (.aload_n 0, 1) := by decide +kernel
theorem dX12_entry_1 : decode cX12_entry 1 = .ok (.getfield 243, 3) := by decide +kernel
theorem dX12_entry_4 : decode cX12_entry 4 = .ok (.ifCond .ne 51, 3) := by decide +kernel
theorem dX12_entry_7 : decode cX12_entry 7 = .ok (.aload_n 0, 1) := by decide +kernel
theorem dX12_entry_8 : decode cX12_entry 8 = .ok (.getfield 111, 3) := by decide +kernel
theorem dX12_entry_11 : decode cX12_entry 11 = .ok (.sipush 300, 3) := by decide +kernel
theorem dX12_entry_14 : decode cX12_entry 14 = .ok (.aload_n 0, 1) := by decide +kernel
theorem dX12_entry_15 : decode cX12_entry 15 = .ok (.getfield 273, 3) := by decide +kernel
theorem dX12_entry_18 : decode cX12_entry 18 = .ok (.imul, 1) := by decide +kernel
theorem dX12_entry_19 : decode cX12_entry 19 = .ok (.aload_n 0, 1) := by decide +kernel
theorem dX12_entry_20 : decode cX12_entry 20 = .ok (.getfield 276, 3) := by decide +kernel
theorem dX12_entry_23 : decode cX12_entry 23 = .ok (.iadd, 1) := by decide +kernel
theorem dX12_entry_24 : decode cX12_entry 24 = .ok (.iload_n 1, 1) := by decide +kernel
theorem dX12_entry_25 : decode cX12_entry 25 = .ok (.iastore, 1) := by decide +kernel
theorem dX12_entry_26 : decode cX12_entry 26 = .ok (.aload_n 0, 1) := by decide +kernel
theorem dX12_entry_27 : decode cX12_entry 27 = .ok (.getfield 114, 3) := by decide +kernel
theorem dX12_entry_30 : decode cX12_entry 30 = .ok (.sipush 300, 3) := by decide +kernel
theorem dX12_entry_33 : decode cX12_entry 33 = .ok (.aload_n 0, 1) := by decide +kernel
theorem dX12_entry_34 : decode cX12_entry 34 = .ok (.getfield 273, 3) := by decide +kernel
theorem dX12_entry_37 : decode cX12_entry 37 = .ok (.imul, 1) := by decide +kernel
theorem dX12_entry_38 : decode cX12_entry 38 = .ok (.aload_n 0, 1) := by decide +kernel
theorem dX12_entry_39 : decode cX12_entry 39 = .ok (.getfield 276, 3) := by decide +kernel
theorem dX12_entry_42 : decode cX12_entry 42 = .ok (.iadd, 1) := by decide +kernel
theorem dX12_entry_43 : decode cX12_entry 43 = .ok (.iload_n 2, 1) := by decide +kernel
theorem dX12_entry_44 : decode cX12_entry 44 = .ok (.iastore, 1) := by decide +kernel
theorem dX12_entry_45 : decode cX12_entry 45 = .ok (.aload_n 0, 1) := by decide +kernel
theorem dX12_entry_46 : decode cX12_entry 46 = .ok (.dup, 1) := by decide +kernel
theorem dX12_entry_47 : decode cX12_entry 47 = .ok (.getfield 276, 3) := by decide +kernel
theorem dX12_entry_50 : decode cX12_entry 50 = .ok (.iconst 1, 1) := by decide +kernel
theorem dX12_entry_51 : decode cX12_entry 51 = .ok (.iadd, 1) := by decide +kernel
theorem dX12_entry_52 : decode cX12_entry 52 = .ok (.putfield 276, 3) := by decide +kernel
theorem dX12_entry_55 : decode cX12_entry 55 = .ok (.return_, 1) := by decide +kernel
def p_X12_entry (G : GG) (v1 : Int32) (v2 : Int32) (w : MS) : Option (MS) :=
if (w.1 0 34) = 0 then (ck (ixn 1800 (((300 : Int32) * (w.1 0 35)) + (w.1 0 37)) = true) <|
nn (w_si w 43 (((300 : Int32) * (w.1 0 35)) + (w.1 0 37)).toNatClampNeg v1) fun w3 =>
ck (ixn 1800 (((300 : Int32) * (w3.1 0 35)) + (w3.1 0 37)) = true) <|
nn (w_si w3 44 (((300 : Int32) * (w3.1 0 35)) + (w3.1 0 37)).toNatClampNeg v2) fun w5 =>
nn (w_si w5 0 37 ((w5.1 0 37) + (1 : Int32))) fun w6 =>
some w6) else
some w
set_option maxHeartbeats 4000000 in
set_option maxRecDepth 100000 in
theorem pt_X12_entry {G : GG} {l : Launch} {M : Nat} {h : AH} (hI : MI h M) {v1 : Int32} {v2 : Int32} {w : MS} {y : MS} (hf : p_X12_entry G v1 v2 w = some y) : Ct G l yX12_entry cX12_entry 3 none 0 0 0 0 [.ref M, .int v1, .int v2] (mh h M w) (none, mh h M y) := by
  refine ct_of (by decide) (Nat.le_of_ble_eq_true rfl) ?_
  intro p e s m args below meth c C hm hr hin
  have C : Cx G cX12_entry RX12 p s m args meth c := C
  refine e_lv (lv2 := [(0, .ref M), (1, .int v1), (2, .int v2)]) [0, 1, 2] rfl ?_
  unfold p_X12_entry at hf
  refine e_aload_n (pc := 0) C dX12_entry_0 0 rfl rfl ?_
  refine q_geti (pc := 1) 34 hI C dX12_entry_1 (by decide) g1435 rfl ?_
  rcases it_e hf with ⟨c1, hf⟩ | ⟨c1, hf⟩
  · refine e_if_ne (pc := 4) (tgt := 55) C dX12_entry_4 (by decide) (fun q => absurd c1 q) (fun _ => ?_)
    refine e_aload_n (pc := 7) C dX12_entry_7 0 rfl rfl ?_
    refine q_getr (pc := 8) 43 hI C dX12_entry_8 (by decide) g1444 rfl rfl ?_
    refine e_sipush (v := (300 : Int32)) (pc := 11) C dX12_entry_11 (by decide) ?_
    refine e_aload_n (pc := 14) C dX12_entry_14 0 rfl rfl ?_
    refine q_geti (pc := 15) 35 hI C dX12_entry_15 (by decide) g1436 rfl ?_
    refine e_imul (pc := 18) C dX12_entry_18 ?_
    refine e_aload_n (pc := 19) C dX12_entry_19 0 rfl rfl ?_
    refine q_geti (pc := 20) 37 hI C dX12_entry_20 (by decide) g1438 rfl ?_
    refine e_iadd (pc := 23) C dX12_entry_23 ?_
    refine e_iload_n (pc := 24) C dX12_entry_24 1 rfl rfl ?_
    obtain ⟨q2, hf⟩ := ck_e hf
    refine q_iast (pc := 25) (k := 43) hI C dX12_entry_25 rfl (ixn_e q2) ?_
    obtain ⟨w3, ew3, hf⟩ := nn_e hf
    refine q_hp ew3 ?_
    refine e_aload_n (pc := 26) C dX12_entry_26 0 rfl rfl ?_
    refine q_getr (pc := 27) 44 hI C dX12_entry_27 (by decide) g1445 rfl rfl ?_
    refine e_sipush (v := (300 : Int32)) (pc := 30) C dX12_entry_30 (by decide) ?_
    refine e_aload_n (pc := 33) C dX12_entry_33 0 rfl rfl ?_
    refine q_geti (pc := 34) 35 hI C dX12_entry_34 (by decide) g1436 rfl ?_
    refine e_imul (pc := 37) C dX12_entry_37 ?_
    refine e_aload_n (pc := 38) C dX12_entry_38 0 rfl rfl ?_
    refine q_geti (pc := 39) 37 hI C dX12_entry_39 (by decide) g1438 rfl ?_
    refine e_iadd (pc := 42) C dX12_entry_42 ?_
    refine e_iload_n (pc := 43) C dX12_entry_43 2 rfl rfl ?_
    obtain ⟨q4, hf⟩ := ck_e hf
    refine q_iast (pc := 44) (k := 44) hI C dX12_entry_44 rfl (ixn_e q4) ?_
    obtain ⟨w5, ew5, hf⟩ := nn_e hf
    refine q_hp ew5 ?_
    refine e_aload_n (pc := 45) C dX12_entry_45 0 rfl rfl ?_
    refine e_dup (pc := 46) C dX12_entry_46 rfl ?_
    refine q_geti (pc := 47) 37 hI C dX12_entry_47 (by decide) g1438 rfl ?_
    refine e_iconst (v := (1 : Int32)) (pc := 50) C dX12_entry_50 (by decide) ?_
    refine e_iadd (pc := 51) C dX12_entry_51 ?_
    refine q_puti (pc := 52) 37 hI C dX12_entry_52 (by decide) g1438 rfl rfl rfl rfl ?_
    obtain ⟨w6, ew6, hf⟩ := nn_e hf
    refine q_hp ew6 ?_
    obtain rfl := so_e hf
    exact e_vret (pc := 55) C hr dX12_entry_55 (Nat.le_of_ble_eq_true rfl) (Nat.le_of_ble_eq_true rfl)
  · refine e_if_ne (pc := 4) (tgt := 55) C dX12_entry_4 (by decide) (fun _ => ?_) (fun q => absurd q c1)
    obtain rfl := so_e hf
    exact e_vret (pc := 55) C hr dX12_entry_55 (Nat.le_of_ble_eq_true rfl) (Nat.le_of_ble_eq_true rfl)
theorem dX12_isCounted_0 : decode cX12_isCounted 0 = .ok (.aload_n 0, 1) := by decide +kernel
theorem dX12_isCounted_1 : decode cX12_isCounted 1 = .ok (.getfield 279, 3) := by decide +kernel
theorem dX12_isCounted_4 : decode cX12_isCounted 4 = .ok (.bipush 60, 2) := by decide +kernel
theorem dX12_isCounted_6 : decode cX12_isCounted 6 = .ok (.if_icmp .ne 9, 3) := by decide +kernel
theorem dX12_isCounted_9 : decode cX12_isCounted 9 = .ok (.aload_n 0, 1) := by decide +kernel
theorem dX12_isCounted_10 : decode cX12_isCounted 10 = .ok (.iconst 3, 1) := by decide +kernel
theorem dX12_isCounted_11 : decode cX12_isCounted 11 = .ok (.iload_n 1, 1) := by decide +kernel
theorem dX12_isCounted_12 : decode cX12_isCounted 12 = .ok (.invokevirtual 282, 3) := by decide +kernel
theorem dX12_isCounted_15 : decode cX12_isCounted 15 = .ok (.aload_n 0, 1) := by decide +kernel
theorem dX12_isCounted_16 : decode cX12_isCounted 16 = .ok (.dup, 1) := by decide +kernel
theorem dX12_isCounted_17 : decode cX12_isCounted 17 = .ok (.getfield 279, 3) := by decide +kernel
theorem dX12_isCounted_20 : decode cX12_isCounted 20 = .ok (.iconst 1, 1) := by decide +kernel
theorem dX12_isCounted_21 : decode cX12_isCounted 21 = .ok (.iadd, 1) := by decide +kernel
theorem dX12_isCounted_22 : decode cX12_isCounted 22 = .ok (.putfield 279, 3) := by decide +kernel
theorem dX12_isCounted_25 : decode cX12_isCounted 25 = .ok (.return_, 1) := by decide +kernel
def p_X12_isCounted (G : GG) (v1 : Int32) (w : MS) : Option (MS) :=
nn (fun (h_15 : MS) => (nn (w_si h_15 0 39 ((h_15.1 0 39) + (1 : Int32))) fun w1 =>
some w1)) fun j_15 =>
if (w.1 0 39) = (60 : Int32) then (ob (p_X12_fails G (3 : Int32) v1 w) fun w3 =>
j_15 w3) else
j_15 w
set_option maxHeartbeats 4000000 in
set_option maxRecDepth 100000 in
theorem pt_X12_isCounted {G : GG} {l : Launch} {M : Nat} {h : AH} (hI : MI h M) {v1 : Int32} {w : MS} {y : MS} (hf : p_X12_isCounted G v1 w = some y) : Ct G l yX12_isCounted cX12_isCounted 2 none 1 22 0 0 [.ref M, .int v1] (mh h M w) (none, mh h M y) := by
  refine ct_of (by decide) (Nat.le_of_ble_eq_true rfl) ?_
  intro p e s m args below meth c C hm hr hin
  have C : Cx G cX12_isCounted RX12 p s m args meth c := C
  refine e_lv (lv2 := [(0, .ref M), (1, .int v1)]) [0, 1] rfl ?_
  unfold p_X12_isCounted at hf
  refine e_aload_n (pc := 0) C dX12_isCounted_0 0 rfl rfl ?_
  refine q_geti (pc := 1) 39 hI C dX12_isCounted_1 (by decide) g1440 rfl ?_
  refine e_bipush (v := (60 : Int32)) (pc := 4) C dX12_isCounted_4 (by decide) ?_
  obtain ⟨j_15, ej_15, hf⟩ := nn_e hf
  have W_15 : ∀ (h_15 : MS), j_15 h_15 = some y → EE G p l e ({ frames := 1, cells := 0, slots := 0, locals := 22 } : Room) s m args below meth c (none, mh h M y) 0 0 15 [(0, .ref M)] [] (mh h M h_15) 0 0 := by
    intro h_15 hf
    rw [ej_15] at hf
    refine e_aload_n (pc := 15) C dX12_isCounted_15 0 rfl rfl ?_
    refine e_dup (pc := 16) C dX12_isCounted_16 rfl ?_
    refine q_geti (pc := 17) 39 hI C dX12_isCounted_17 (by decide) g1440 rfl ?_
    refine e_iconst (v := (1 : Int32)) (pc := 20) C dX12_isCounted_20 (by decide) ?_
    refine e_iadd (pc := 21) C dX12_isCounted_21 ?_
    refine q_puti (pc := 22) 39 hI C dX12_isCounted_22 (by decide) g1440 rfl rfl rfl rfl ?_
    obtain ⟨w1, ew1, hf⟩ := nn_e hf
    refine q_hp ew1 ?_
    obtain rfl := so_e hf
    exact e_vret (pc := 25) C hr dX12_isCounted_25 (Nat.le_of_ble_eq_true rfl) (Nat.le_of_ble_eq_true rfl)
  rcases it_e hf with ⟨c2, hf⟩ | ⟨c2, hf⟩
  · refine e_icmp_ne (pc := 6) (tgt := 15) C dX12_isCounted_6 (by decide) (fun q => absurd c2 q) (fun _ => ?_)
    refine e_aload_n (pc := 9) C dX12_isCounted_9 0 rfl rfl ?_
    refine e_iconst (v := (3 : Int32)) (pc := 10) C dX12_isCounted_10 (by decide) ?_
    refine e_iload_n (pc := 11) C dX12_isCounted_11 1 rfl rfl ?_
    obtain ⟨w3, y4, hf⟩ := ob_e hf
    refine e_callVv (pc := 12) (st := []) 12 C (pt_X12_fails hI y4) dX12_isCounted_12 (by decide) hI.1 g1710 g1712 g62 g157 g1713 hd_X12_fails rfl ⟨Nat.le_of_ble_eq_true rfl, Nat.le_of_ble_eq_true rfl⟩ ⟨Nat.le_of_ble_eq_true rfl, Nat.le_of_ble_eq_true rfl⟩ rfl (Nat.le_of_ble_eq_true rfl) ?_
    refine e_lv (lv2 := [(0, .ref M)]) [0] rfl ?_
    exact W_15 w3 hf
  · refine e_icmp_ne (pc := 6) (tgt := 15) C dX12_isCounted_6 (by decide) (fun _ => ?_) (fun q => absurd q c2)
    refine e_lv (lv2 := [(0, .ref M)]) [0] rfl ?_
    exact W_15 w hf
theorem dX12_digits_0 : decode cX12_digits 0 = .ok (.aload_n 0, 1) := by decide +kernel
theorem dX12_digits_1 : decode cX12_digits 1 = .ok (.invokevirtual 286, 3) := by decide +kernel
theorem dX12_digits_4 : decode cX12_digits 4 = .ok (.ifCond .ne 14, 3) := by decide +kernel
theorem dX12_digits_7 : decode cX12_digits 7 = .ok (.aload_n 0, 1) := by decide +kernel
theorem dX12_digits_8 : decode cX12_digits 8 = .ok (.iconst 0, 1) := by decide +kernel
theorem dX12_digits_9 : decode cX12_digits 9 = .ok (.aload_n 0, 1) := by decide +kernel
theorem dX12_digits_10 : decode cX12_digits 10 = .ok (.getfield 246, 3) := by decide +kernel
theorem dX12_digits_13 : decode cX12_digits 13 = .ok (.invokevirtual 282, 3) := by decide +kernel
theorem dX12_digits_16 : decode cX12_digits 16 = .ok (.iconst 0, 1) := by decide +kernel
theorem dX12_digits_17 : decode cX12_digits 17 = .ok (.ireturn, 1) := by decide +kernel
theorem dX12_digits_18 : decode cX12_digits 18 = .ok (.aload_n 0, 1) := by decide +kernel
theorem dX12_digits_19 : decode cX12_digits 19 = .ok (.getfield 246, 3) := by decide +kernel
theorem dX12_digits_22 : decode cX12_digits 22 = .ok (.istore_n 2, 1) := by decide +kernel
theorem dX12_digits_23 : decode cX12_digits 23 = .ok (.iconst 0, 1) := by decide +kernel
theorem dX12_digits_24 : decode cX12_digits 24 = .ok (.istore_n 3, 1) := by decide +kernel
theorem dX12_digits_25 : decode cX12_digits 25 = .ok (.aload_n 0, 1) := by decide +kernel
theorem dX12_digits_26 : decode cX12_digits 26 = .ok (.invokevirtual 286, 3) := by decide +kernel
theorem dX12_digits_29 : decode cX12_digits 29 = .ok (.ifCond .eq 43, 3) := by decide +kernel
theorem dX12_digits_32 : decode cX12_digits 32 = .ok (.aload_n 0, 1) := by decide +kernel
theorem dX12_digits_33 : decode cX12_digits 33 = .ok (.getfield 246, 3) := by decide +kernel
theorem dX12_digits_36 : decode cX12_digits 36 = .ok (.iload_n 2, 1) := by decide +kernel
theorem dX12_digits_37 : decode cX12_digits 37 = .ok (.isub, 1) := by decide +kernel
theorem dX12_digits_38 : decode cX12_digits 38 = .ok (.iconst 5, 1) := by decide +kernel
theorem dX12_digits_39 : decode cX12_digits 39 = .ok (.if_icmp .ge 18, 3) := by decide +kernel
theorem dX12_digits_42 : decode cX12_digits 42 = .ok (.bipush 10, 2) := by decide +kernel
theorem dX12_digits_44 : decode cX12_digits 44 = .ok (.iload_n 3, 1) := by decide +kernel
theorem dX12_digits_45 : decode cX12_digits 45 = .ok (.imul, 1) := by decide +kernel
theorem dX12_digits_46 : decode cX12_digits 46 = .ok (.aload_n 0, 1) := by decide +kernel
theorem dX12_digits_47 : decode cX12_digits 47 = .ok (.invokevirtual 249, 3) := by decide +kernel
theorem dX12_digits_50 : decode cX12_digits 50 = .ok (.iadd, 1) := by decide +kernel
theorem dX12_digits_51 : decode cX12_digits 51 = .ok (.bipush 48, 2) := by decide +kernel
theorem dX12_digits_53 : decode cX12_digits 53 = .ok (.isub, 1) := by decide +kernel
theorem dX12_digits_54 : decode cX12_digits 54 = .ok (.goto 4, 3) := by decide +kernel
theorem dX12_digits_57 : decode cX12_digits 57 = .ok (.iload_n 3, 1) := by decide +kernel
theorem dX12_digits_58 : decode cX12_digits 58 = .ok (.istore_n 3, 1) := by decide +kernel
theorem dX12_digits_59 : decode cX12_digits 59 = .ok (.aload_n 0, 1) := by decide +kernel
theorem dX12_digits_60 : decode cX12_digits 60 = .ok (.dup, 1) := by decide +kernel
theorem dX12_digits_61 : decode cX12_digits 61 = .ok (.getfield 246, 3) := by decide +kernel
theorem dX12_digits_64 : decode cX12_digits 64 = .ok (.iconst 1, 1) := by decide +kernel
theorem dX12_digits_65 : decode cX12_digits 65 = .ok (.iadd, 1) := by decide +kernel
theorem dX12_digits_66 : decode cX12_digits 66 = .ok (.putfield 246, 3) := by decide +kernel
theorem dX12_digits_69 : decode cX12_digits 69 = .ok (.goto (-44), 3) := by decide +kernel
theorem dX12_digits_72 : decode cX12_digits 72 = .ok (.aload_n 0, 1) := by decide +kernel
theorem dX12_digits_73 : decode cX12_digits 73 = .ok (.getfield 246, 3) := by decide +kernel
theorem dX12_digits_76 : decode cX12_digits 76 = .ok (.iload_n 2, 1) := by decide +kernel
theorem dX12_digits_77 : decode cX12_digits 77 = .ok (.isub, 1) := by decide +kernel
theorem dX12_digits_78 : decode cX12_digits 78 = .ok (.iconst 5, 1) := by decide +kernel
theorem dX12_digits_79 : decode cX12_digits 79 = .ok (.if_icmp .gt 8, 3) := by decide +kernel
theorem dX12_digits_82 : decode cX12_digits 82 = .ok (.iload_n 3, 1) := by decide +kernel
theorem dX12_digits_83 : decode cX12_digits 83 = .ok (.iload_n 1, 1) := by decide +kernel
theorem dX12_digits_84 : decode cX12_digits 84 = .ok (.if_icmp .le 9, 3) := by decide +kernel
theorem dX12_digits_87 : decode cX12_digits 87 = .ok (.aload_n 0, 1) := by decide +kernel
theorem dX12_digits_88 : decode cX12_digits 88 = .ok (.iconst 1, 1) := by decide +kernel
theorem dX12_digits_89 : decode cX12_digits 89 = .ok (.iload_n 2, 1) := by decide +kernel
theorem dX12_digits_90 : decode cX12_digits 90 = .ok (.invokevirtual 282, 3) := by decide +kernel
theorem dX12_digits_93 : decode cX12_digits 93 = .ok (.iload_n 3, 1) := by decide +kernel
theorem dX12_digits_94 : decode cX12_digits 94 = .ok (.ireturn, 1) := by decide +kernel
def P_X12_digits_25 (G : GG) (v1 : Int32) (v2 : Int32) (K_72 : Int32 → MS → Option (Int32 × MS)) (self_25 : Int32 → MS → Option (Int32 × MS)) (v3 : Int32) (w : MS) : Option (Int32 × MS) :=
cw (p_X12_isDigit G w) fun r10 w8 =>
if r10 = 0 then (K_72 v3 w8) else
nn (fun (s0_58 : Int32) (h_58 : MS) => (nn (w_si h_58 0 33 ((h_58.1 0 33) + (1 : Int32))) fun w12 =>
self_25 s0_58 w12)) fun j_58 =>
if (5 : Int32) ≤ ((w8.1 0 33) - v2) then (j_58 v3 w8) else
cw (p_X12_sign G w8) fun r16 w14 =>
j_58 ((((10 : Int32) * v3) + r16) - (48 : Int32)) w14
def p_X12_digits (G : GG) (v1 : Int32) (w : MS) : Option (Int32 × MS) :=
cw (p_X12_isDigit G w) fun r3 w1 =>
if r3 = 0 then (ob (p_X12_fails G (0 : Int32) (w1.1 0 33) w1) fun w5 =>
some ((0 : Int32), w5)) else
nn (w1.1 0 33) fun x7 =>
lw1 (P_X12_digits_25 G v1 x7 (fun (v3_72 : Int32) (h_72 : MS) => (nn (fun (uu_87 : Unit) => (ob (p_X12_fails G (1 : Int32) x7 h_72) fun w17 =>
some (v3_72, w17))) fun j_87 =>
if (5 : Int32) < ((h_72.1 0 33) - x7) then (j_87 ()) else
if v3_72 ≤ v1 then (some (v3_72, h_72)) else
j_87 ()))) bN (0 : Int32) w1
set_option maxHeartbeats 4000000 in
set_option maxRecDepth 100000 in
theorem ep_X12_digits_25 {G : GG} {p : Program} {l : Launch} {e : Env} {s : State} {m : MethodId} {args : Array Value} {below : List Frame} {meth : Method} {c : Code} {y : Int32 × MS} {M : Nat} {h : AH} (hI : MI h M) (C : Cx G cX12_digits RX12 p s m args meth c) (hm : c.maxLocals = 4) (hr : meth.sig.returnType = (some .int)) (hin : meth.name = yX12_digits.name) {v1 : Int32} {v2 : Int32} {K_72 : Int32 → MS → Option (Int32 × MS)} (hK_72 : ∀ (u3 : Int32) (w : MS), K_72 u3 w = some y → EE G p l e ({ frames := 2, cells := 0, slots := 0, locals := 45 } : Room) s m args below meth c (some (.int y.1), mh h M y.2) 0 0 72 [(0, .ref M), (1, .int v1), (2, .int v2), (3, .int u3)] [] (mh h M w) 0 0) :
    ∀ (n : Nat) (v3 : Int32) (w : MS), lw1 (P_X12_digits_25 G v1 v2 K_72) n v3 w = some y → EE G p l e ({ frames := 2, cells := 0, slots := 0, locals := 45 } : Room) s m args below meth c (some (.int y.1), mh h M y.2) 0 0 25 [(0, .ref M), (1, .int v1), (2, .int v2), (3, .int v3)] [] (mh h M w) 0 0 := by
  intro n
  induction n with
  | zero => intro v3 w hf; exact (no_e hf).elim
  | succ n ih_25 =>
    intro v3 w hf
    have hf : P_X12_digits_25 G v1 v2 K_72 (lw1 (P_X12_digits_25 G v1 v2 K_72) n) v3 w = some y := hf
    generalize lw1 (P_X12_digits_25 G v1 v2 K_72) n = self_25 at hf ih_25
    unfold P_X12_digits_25 at hf
    refine e_aload_n (pc := 25) C dX12_digits_25 0 rfl rfl ?_
    obtain ⟨r10, w8, y9, hf⟩ := cw_e hf
    refine e_callVi (pc := 26) (st := []) 12 C (pt_X12_isDigit hI y9) dX12_digits_26 (by decide) hI.1 g1731 g1733 g67 g157 g1734 hd_X12_isDigit rfl ⟨Nat.le_of_ble_eq_true rfl, Nat.le_of_ble_eq_true rfl⟩ ⟨Nat.le_of_ble_eq_true rfl, Nat.le_of_ble_eq_true rfl⟩ rfl (Nat.le_of_ble_eq_true rfl) ?_
    rcases it_e hf with ⟨c11, hf⟩ | ⟨c11, hf⟩
    · refine e_if_eq (pc := 29) (tgt := 72) C dX12_digits_29 (by decide) (fun _ => ?_) (fun q => absurd c11 q)
      exact hK_72 v3 w8 hf
    · refine e_if_eq (pc := 29) (tgt := 72) C dX12_digits_29 (by decide) (fun q => absurd q c11) (fun _ => ?_)
      refine e_aload_n (pc := 32) C dX12_digits_32 0 rfl rfl ?_
      refine q_geti (pc := 33) 33 hI C dX12_digits_33 (by decide) g1434 rfl ?_
      refine e_iload_n (pc := 36) C dX12_digits_36 2 rfl rfl ?_
      refine e_isub (pc := 37) C dX12_digits_37 ?_
      refine e_iconst (v := (5 : Int32)) (pc := 38) C dX12_digits_38 (by decide) ?_
      obtain ⟨j_58, ej_58, hf⟩ := nn_e hf
      have W_58 : ∀ (s0_58 : Int32) (h_58 : MS), j_58 s0_58 h_58 = some y → EE G p l e ({ frames := 2, cells := 0, slots := 0, locals := 45 } : Room) s m args below meth c (some (.int y.1), mh h M y.2) 0 0 58 [(0, .ref M), (1, .int v1), (2, .int v2)] [.int s0_58] (mh h M h_58) 0 0 := by
        intro s0_58 h_58 hf
        rw [ej_58] at hf
        refine e_istore_n (pc := 58) (lv2 := [(3, .int s0_58), (0, .ref M), (1, .int v1), (2, .int v2)]) C hm dX12_digits_58 rfl (by decide) rfl ?_
        refine e_aload_n (pc := 59) C dX12_digits_59 1 rfl rfl ?_
        refine e_dup (pc := 60) C dX12_digits_60 rfl ?_
        refine q_geti (pc := 61) 33 hI C dX12_digits_61 (by decide) g1434 rfl ?_
        refine e_iconst (v := (1 : Int32)) (pc := 64) C dX12_digits_64 (by decide) ?_
        refine e_iadd (pc := 65) C dX12_digits_65 ?_
        refine q_puti (pc := 66) 33 hI C dX12_digits_66 (by decide) g1434 rfl rfl rfl rfl ?_
        obtain ⟨w12, ew12, hf⟩ := nn_e hf
        refine q_hp ew12 ?_
        refine e_goto (pc := 69) (tgt := 25) C dX12_digits_69 (by decide) ?_
        refine e_lv (lv2 := [(0, .ref M), (1, .int v1), (2, .int v2), (3, .int s0_58)]) [1, 2, 3, 0] rfl ?_
        exact ih_25 s0_58 w12 hf
      rcases it_e hf with ⟨c13, hf⟩ | ⟨c13, hf⟩
      · refine e_icmp_ge (pc := 39) (tgt := 57) C dX12_digits_39 (by decide) (fun _ => ?_) (fun q => absurd c13 q)
        refine e_iload_n (pc := 57) C dX12_digits_57 3 rfl rfl ?_
        refine e_lv (lv2 := [(0, .ref M), (1, .int v1), (2, .int v2)]) [0, 1, 2] rfl ?_
        exact W_58 v3 w8 hf
      · refine e_icmp_ge (pc := 39) (tgt := 57) C dX12_digits_39 (by decide) (fun q => absurd q c13) (fun _ => ?_)
        refine e_bipush (v := (10 : Int32)) (pc := 42) C dX12_digits_42 (by decide) ?_
        refine e_iload_n (pc := 44) C dX12_digits_44 3 rfl rfl ?_
        refine e_imul (pc := 45) C dX12_digits_45 ?_
        refine e_aload_n (pc := 46) C dX12_digits_46 0 rfl rfl ?_
        obtain ⟨r16, w14, y15, hf⟩ := cw_e hf
        refine e_callVi (pc := 47) (st := [.int ((10 : Int32) * v3)]) 12 C (pt_X12_sign hI y15) dX12_digits_47 (by decide) hI.1 g1690 g1692 g60 g157 g1693 hd_X12_sign rfl ⟨Nat.le_of_ble_eq_true rfl, Nat.le_of_ble_eq_true rfl⟩ ⟨Nat.le_of_ble_eq_true rfl, Nat.le_of_ble_eq_true rfl⟩ rfl (Nat.le_of_ble_eq_true rfl) ?_
        refine e_iadd (pc := 50) C dX12_digits_50 ?_
        refine e_bipush (v := (48 : Int32)) (pc := 51) C dX12_digits_51 (by decide) ?_
        refine e_isub (pc := 53) C dX12_digits_53 ?_
        refine e_goto (pc := 54) (tgt := 58) C dX12_digits_54 (by decide) ?_
        refine e_lv (lv2 := [(0, .ref M), (1, .int v1), (2, .int v2)]) [0, 1, 2] rfl ?_
        exact W_58 ((((10 : Int32) * v3) + r16) - (48 : Int32)) w14 hf
set_option maxHeartbeats 4000000 in
set_option maxRecDepth 100000 in
theorem pt_X12_digits {G : GG} {l : Launch} {M : Nat} {h : AH} (hI : MI h M) {v1 : Int32} {w : MS} {y : Int32 × MS} (hf : p_X12_digits G v1 w = some y) : Ct G l yX12_digits cX12_digits 4 (some .int) 2 45 0 0 [.ref M, .int v1] (mh h M w) (some (.int y.1), mh h M y.2) := by
  refine ct_of (by decide) (Nat.le_of_ble_eq_true rfl) ?_
  intro p e s m args below meth c C hm hr hin
  have C : Cx G cX12_digits RX12 p s m args meth c := C
  refine e_lv (lv2 := [(0, .ref M), (1, .int v1)]) [0, 1] rfl ?_
  unfold p_X12_digits at hf
  refine e_aload_n (pc := 0) C dX12_digits_0 0 rfl rfl ?_
  obtain ⟨r3, w1, y2, hf⟩ := cw_e hf
  refine e_callVi (pc := 1) (st := []) 12 C (pt_X12_isDigit hI y2) dX12_digits_1 (by decide) hI.1 g1731 g1733 g67 g157 g1734 hd_X12_isDigit rfl ⟨Nat.le_of_ble_eq_true rfl, Nat.le_of_ble_eq_true rfl⟩ ⟨Nat.le_of_ble_eq_true rfl, Nat.le_of_ble_eq_true rfl⟩ rfl (Nat.le_of_ble_eq_true rfl) ?_
  rcases it_e hf with ⟨c4, hf⟩ | ⟨c4, hf⟩
  · refine e_if_ne (pc := 4) (tgt := 18) C dX12_digits_4 (by decide) (fun q => absurd c4 q) (fun _ => ?_)
    refine e_aload_n (pc := 7) C dX12_digits_7 0 rfl rfl ?_
    refine e_iconst (v := (0 : Int32)) (pc := 8) C dX12_digits_8 (by decide) ?_
    refine e_aload_n (pc := 9) C dX12_digits_9 0 rfl rfl ?_
    refine q_geti (pc := 10) 33 hI C dX12_digits_10 (by decide) g1434 rfl ?_
    obtain ⟨w5, y6, hf⟩ := ob_e hf
    refine e_callVv (pc := 13) (st := []) 12 C (pt_X12_fails hI y6) dX12_digits_13 (by decide) hI.1 g1710 g1712 g62 g157 g1713 hd_X12_fails rfl ⟨Nat.le_of_ble_eq_true rfl, Nat.le_of_ble_eq_true rfl⟩ ⟨Nat.le_of_ble_eq_true rfl, Nat.le_of_ble_eq_true rfl⟩ rfl (Nat.le_of_ble_eq_true rfl) ?_
    refine e_iconst (v := (0 : Int32)) (pc := 16) C dX12_digits_16 (by decide) ?_
    obtain rfl := so_e hf
    exact e_iret (pc := 17) C hr dX12_digits_17 (Nat.le_of_ble_eq_true rfl) (Nat.le_of_ble_eq_true rfl)
  · refine e_if_ne (pc := 4) (tgt := 18) C dX12_digits_4 (by decide) (fun _ => ?_) (fun q => absurd q c4)
    refine e_aload_n (pc := 18) C dX12_digits_18 0 rfl rfl ?_
    refine q_geti (pc := 19) 33 hI C dX12_digits_19 (by decide) g1434 rfl ?_
    obtain ⟨x7, ex7, hf⟩ := nn_e hf
    refine e_topi ex7 ?_
    refine e_istore_n (pc := 22) (lv2 := [(2, .int x7), (0, .ref M), (1, .int v1)]) C hm dX12_digits_22 rfl (by decide) rfl ?_
    refine e_iconst (v := (0 : Int32)) (pc := 23) C dX12_digits_23 (by decide) ?_
    refine e_istore_n (pc := 24) (lv2 := [(3, .int (0 : Int32)), (2, .int x7), (0, .ref M), (1, .int v1)]) C hm dX12_digits_24 rfl (by decide) rfl ?_
    refine e_lv (lv2 := [(0, .ref M), (1, .int v1), (2, .int x7), (3, .int (0 : Int32))]) [2, 3, 1, 0] rfl ?_
    refine ep_X12_digits_25 hI C hm hr hin (fun v3_72 h_72 hf => ?_) bN (0 : Int32) w1 hf
    refine e_aload_n (pc := 72) C dX12_digits_72 0 rfl rfl ?_
    refine q_geti (pc := 73) 33 hI C dX12_digits_73 (by decide) g1434 rfl ?_
    refine e_iload_n (pc := 76) C dX12_digits_76 2 rfl rfl ?_
    refine e_isub (pc := 77) C dX12_digits_77 ?_
    refine e_iconst (v := (5 : Int32)) (pc := 78) C dX12_digits_78 (by decide) ?_
    obtain ⟨j_87, ej_87, hf⟩ := nn_e hf
    have W_87 : ∀ (uu_87 : Unit), j_87 uu_87 = some y → EE G p l e ({ frames := 2, cells := 0, slots := 0, locals := 45 } : Room) s m args below meth c (some (.int y.1), mh h M y.2) 0 0 87 [(0, .ref M), (2, .int x7), (3, .int v3_72)] [] (mh h M h_72) 0 0 := by
      intro uu_87 hf
      rw [ej_87] at hf
      refine e_aload_n (pc := 87) C dX12_digits_87 0 rfl rfl ?_
      refine e_iconst (v := (1 : Int32)) (pc := 88) C dX12_digits_88 (by decide) ?_
      refine e_iload_n (pc := 89) C dX12_digits_89 1 rfl rfl ?_
      obtain ⟨w17, y18, hf⟩ := ob_e hf
      refine e_callVv (pc := 90) (st := []) 12 C (pt_X12_fails hI y18) dX12_digits_90 (by decide) hI.1 g1710 g1712 g62 g157 g1713 hd_X12_fails rfl ⟨Nat.le_of_ble_eq_true rfl, Nat.le_of_ble_eq_true rfl⟩ ⟨Nat.le_of_ble_eq_true rfl, Nat.le_of_ble_eq_true rfl⟩ rfl (Nat.le_of_ble_eq_true rfl) ?_
      refine e_iload_n (pc := 93) C dX12_digits_93 2 rfl rfl ?_
      obtain rfl := so_e hf
      exact e_iret (pc := 94) C hr dX12_digits_94 (Nat.le_of_ble_eq_true rfl) (Nat.le_of_ble_eq_true rfl)
    rcases it_e hf with ⟨c19, hf⟩ | ⟨c19, hf⟩
    · refine e_icmp_gt (pc := 79) (tgt := 87) C dX12_digits_79 (by decide) (fun _ => ?_) (fun q => absurd c19 q)
      refine e_lv (lv2 := [(0, .ref M), (2, .int x7), (3, .int v3_72)]) [0, 2, 3] rfl ?_
      exact W_87 () hf
    · refine e_icmp_gt (pc := 79) (tgt := 87) C dX12_digits_79 (by decide) (fun q => absurd q c19) (fun _ => ?_)
      refine e_iload_n (pc := 82) C dX12_digits_82 3 rfl rfl ?_
      refine e_iload_n (pc := 83) C dX12_digits_83 1 rfl rfl ?_
      rcases it_e hf with ⟨c20, hf⟩ | ⟨c20, hf⟩
      · refine e_icmp_le (pc := 84) (tgt := 93) C dX12_digits_84 (by decide) (fun _ => ?_) (fun q => absurd c20 q)
        refine e_iload_n (pc := 93) C dX12_digits_93 3 rfl rfl ?_
        obtain rfl := so_e hf
        exact e_iret (pc := 94) C hr dX12_digits_94 (Nat.le_of_ble_eq_true rfl) (Nat.le_of_ble_eq_true rfl)
      · refine e_icmp_le (pc := 84) (tgt := 93) C dX12_digits_84 (by decide) (fun q => absurd q c20) (fun _ => ?_)
        refine e_lv (lv2 := [(0, .ref M), (2, .int x7), (3, .int v3_72)]) [0, 2, 3] rfl ?_
        exact W_87 () hf
theorem dX12_value_0 : decode cX12_value 0 = .ok (.aload_n 0, 1) := by decide +kernel
theorem dX12_value_1 : decode cX12_value 1 = .ok (.invokevirtual 266, 3) := by decide +kernel
theorem dX12_value_4 : decode cX12_value 4 = .ok (.aload_n 0, 1) := by decide +kernel
theorem dX12_value_5 : decode cX12_value 5 = .ok (.getfield 246, 3) := by decide +kernel
theorem dX12_value_8 : decode cX12_value 8 = .ok (.istore_n 1, 1) := by decide +kernel
theorem dX12_value_9 : decode cX12_value 9 = .ok (.aload_n 0, 1) := by decide +kernel
theorem dX12_value_10 : decode cX12_value 10 = .ok (.invokevirtual 286, 3) := by decide +kernel
theorem dX12_value_13 : decode cX12_value 13 = .ok (.ifCond .eq 23, 3) := by decide +kernel
theorem dX12_value_16 : decode cX12_value 16 = .ok (.aload_n 0, 1) := by decide +kernel
theorem dX12_value_17 : decode cX12_value 17 = .ok (.ldc_w 290, 3) := by decide +kernel
theorem dX12_value_20 : decode cX12_value 20 = .ok (.invokevirtual 291, 3) := by decide +kernel
theorem dX12_value_23 : decode cX12_value 23 = .ok (.istore_n 2, 1) := by decide +kernel
theorem dX12_value_24 : decode cX12_value 24 = .ok (.aload_n 0, 1) := by decide +kernel
theorem dX12_value_25 : decode cX12_value 25 = .ok (.iload_n 1, 1) := by decide +kernel
theorem dX12_value_26 : decode cX12_value 26 = .ok (.invokevirtual 295, 3) := by decide +kernel
theorem dX12_value_29 : decode cX12_value 29 = .ok (.aload_n 0, 1) := by decide +kernel
theorem dX12_value_30 : decode cX12_value 30 = .ok (.iconst 0, 1) := by decide +kernel
theorem dX12_value_31 : decode cX12_value 31 = .ok (.iload_n 2, 1) := by decide +kernel
theorem dX12_value_32 : decode cX12_value 32 = .ok (.invokevirtual 298, 3) := by decide +kernel
theorem dX12_value_35 : decode cX12_value 35 = .ok (.return_, 1) := by decide +kernel
theorem dX12_value_36 : decode cX12_value 36 = .ok (.iconst 0, 1) := by decide +kernel
theorem dX12_value_37 : decode cX12_value 37 = .ok (.istore_n 2, 1) := by decide +kernel
theorem dX12_value_38 : decode cX12_value 38 = .ok (.iload_n 2, 1) := by decide +kernel
theorem dX12_value_39 : decode cX12_value 39 = .ok (.aload_n 0, 1) := by decide +kernel
theorem dX12_value_40 : decode cX12_value 40 = .ok (.getfield 103, 3) := by decide +kernel
theorem dX12_value_43 : decode cX12_value 43 = .ok (.if_icmp .ge 20, 3) := by decide +kernel
theorem dX12_value_46 : decode cX12_value 46 = .ok (.aload_n 0, 1) := by decide +kernel
theorem dX12_value_47 : decode cX12_value 47 = .ok (.iload_n 2, 1) := by decide +kernel
theorem dX12_value_48 : decode cX12_value 48 = .ok (.invokestatic 301, 3) := by decide +kernel
theorem dX12_value_51 : decode cX12_value 51 = .ok (.invokevirtual 269, 3) := by decide +kernel
theorem dX12_value_54 : decode cX12_value 54 = .ok (.ifCond .ne 9, 3) := by decide +kernel
theorem dX12_value_57 : decode cX12_value 57 = .ok (.iinc 2 1, 3) := by decide +kernel
theorem dX12_value_60 : decode cX12_value 60 = .ok (.goto (-22), 3) := by decide +kernel
theorem dX12_value_63 : decode cX12_value 63 = .ok (.iload_n 2, 1) := by decide +kernel
theorem dX12_value_64 : decode cX12_value 64 = .ok (.aload_n 0, 1) := by decide +kernel
theorem dX12_value_65 : decode cX12_value 65 = .ok (.getfield 103, 3) := by decide +kernel
theorem dX12_value_68 : decode cX12_value 68 = .ok (.if_icmp .ne 10, 3) := by decide +kernel
theorem dX12_value_71 : decode cX12_value 71 = .ok (.aload_n 0, 1) := by decide +kernel
theorem dX12_value_72 : decode cX12_value 72 = .ok (.iconst 0, 1) := by decide +kernel
theorem dX12_value_73 : decode cX12_value 73 = .ok (.iload_n 1, 1) := by decide +kernel
theorem dX12_value_74 : decode cX12_value 74 = .ok (.invokevirtual 282, 3) := by decide +kernel
theorem dX12_value_77 : decode cX12_value 77 = .ok (.return_, 1) := by decide +kernel
theorem dX12_value_78 : decode cX12_value 78 = .ok (.aload_n 0, 1) := by decide +kernel
theorem dX12_value_79 : decode cX12_value 79 = .ok (.iload_n 1, 1) := by decide +kernel
theorem dX12_value_80 : decode cX12_value 80 = .ok (.invokevirtual 295, 3) := by decide +kernel
theorem dX12_value_83 : decode cX12_value 83 = .ok (.aload_n 0, 1) := by decide +kernel
theorem dX12_value_84 : decode cX12_value 84 = .ok (.dup, 1) := by decide +kernel
theorem dX12_value_85 : decode cX12_value 85 = .ok (.getfield 246, 3) := by decide +kernel
theorem dX12_value_88 : decode cX12_value 88 = .ok (.iload_n 2, 1) := by decide +kernel
theorem dX12_value_89 : decode cX12_value 89 = .ok (.invokestatic 301, 3) := by decide +kernel
theorem dX12_value_92 : decode cX12_value 92 = .ok (.invokevirtual 257, 3) := by decide +kernel
theorem dX12_value_95 : decode cX12_value 95 = .ok (.iadd, 1) := by decide +kernel
theorem dX12_value_96 : decode cX12_value 96 = .ok (.putfield 246, 3) := by decide +kernel
theorem dX12_value_99 : decode cX12_value 99 = .ok (.aload_n 0, 1) := by decide +kernel
theorem dX12_value_100 : decode cX12_value 100 = .ok (.iconst 1, 1) := by decide +kernel
theorem dX12_value_101 : decode cX12_value 101 = .ok (.iload_n 2, 1) := by decide +kernel
theorem dX12_value_102 : decode cX12_value 102 = .ok (.invokevirtual 298, 3) := by decide +kernel
theorem dX12_value_105 : decode cX12_value 105 = .ok (.return_, 1) := by decide +kernel
def P_X12_value_38 (G : GG) (v1 : Int32) (K_63 : Int32 → MS → Option (MS)) (self_38 : Int32 → MS → Option (MS)) (v2 : Int32) (w : MS) : Option (MS) :=
if (w.1 0 41) ≤ v2 then (K_63 v2 w) else
cw (p_X12_wordOf G v2 w) fun r11 w9 =>
cw (p_X12_stood G r11 w9) fun r14 w12 =>
if r14 = 0 then (nn (v2 + (1 : Int32)) fun x16 =>
self_38 x16 w12) else
K_63 v2 w12
def p_X12_value (G : GG) (w : MS) : Option (MS) :=
ob (p_X12_blanks G w) fun w1 =>
nn (w1.1 0 33) fun x3 =>
cw (p_X12_isDigit G w1) fun r6 w4 =>
if r6 = 0 then (lw1 (P_X12_value_38 G x3 (fun (v2_63 : Int32) (h_63 : MS) => (if v2_63 = (h_63.1 0 41) then (ob (p_X12_fails G (0 : Int32) x3 h_63) fun w18 =>
some w18) else
ob (p_X12_isCounted G x3 h_63) fun w20 =>
cw (p_X12_wordOf G v2_63 w20) fun r24 w22 =>
cw (p_J0_length_8abf5 G r24 w22) fun r27 w25 =>
nn (w_si w25 0 33 ((w20.1 0 33) + r27)) fun w28 =>
ob (p_X12_entry G (1 : Int32) v2_63 w28) fun w29 =>
some w29))) bN (0 : Int32) w4) else
cw (p_X12_digits G (99999 : Int32) w4) fun r33 w31 =>
ob (p_X12_isCounted G x3 w31) fun w34 =>
ob (p_X12_entry G (0 : Int32) r33 w34) fun w36 =>
some w36
set_option maxHeartbeats 4000000 in
set_option maxRecDepth 100000 in
theorem ep_X12_value_38 {G : GG} {p : Program} {l : Launch} {e : Env} {s : State} {m : MethodId} {args : Array Value} {below : List Frame} {meth : Method} {c : Code} {y : MS} {M : Nat} {h : AH} (hI : MI h M) (C : Cx G cX12_value RX12 p s m args meth c) (hm : c.maxLocals = 3) (hr : meth.sig.returnType = none) (hin : meth.name = yX12_value.name) {v1 : Int32} {K_63 : Int32 → MS → Option (MS)} (hK_63 : ∀ (u2 : Int32) (w : MS), K_63 u2 w = some y → EE G p l e ({ frames := 5, cells := 0, slots := 0, locals := 109 } : Room) s m args below meth c (none, mh h M y) 0 0 63 [(0, .ref M), (1, .int v1), (2, .int u2)] [] (mh h M w) 0 0) :
    ∀ (n : Nat) (v2 : Int32) (w : MS), lw1 (P_X12_value_38 G v1 K_63) n v2 w = some y → EE G p l e ({ frames := 5, cells := 0, slots := 0, locals := 109 } : Room) s m args below meth c (none, mh h M y) 0 0 38 [(0, .ref M), (1, .int v1), (2, .int v2)] [] (mh h M w) 0 0 := by
  intro n
  induction n with
  | zero => intro v2 w hf; exact (no_e hf).elim
  | succ n ih_38 =>
    intro v2 w hf
    have hf : P_X12_value_38 G v1 K_63 (lw1 (P_X12_value_38 G v1 K_63) n) v2 w = some y := hf
    generalize lw1 (P_X12_value_38 G v1 K_63) n = self_38 at hf ih_38
    unfold P_X12_value_38 at hf
    refine e_iload_n (pc := 38) C dX12_value_38 2 rfl rfl ?_
    refine e_aload_n (pc := 39) C dX12_value_39 0 rfl rfl ?_
    refine q_geti (pc := 40) 41 hI C dX12_value_40 (by decide) g1442 rfl ?_
    rcases it_e hf with ⟨c8, hf⟩ | ⟨c8, hf⟩
    · refine e_icmp_ge (pc := 43) (tgt := 63) C dX12_value_43 (by decide) (fun _ => ?_) (fun q => absurd c8 q)
      exact hK_63 v2 w hf
    · refine e_icmp_ge (pc := 43) (tgt := 63) C dX12_value_43 (by decide) (fun q => absurd q c8) (fun _ => ?_)
      refine e_aload_n (pc := 46) C dX12_value_46 0 rfl rfl ?_
      refine e_iload_n (pc := 47) C dX12_value_47 2 rfl rfl ?_
      obtain ⟨r11, w9, y10, hf⟩ := cw_e hf
      refine e_callSi (pc := 48) (st := [.ref M]) C (pt_X12_wordOf hI y10) dX12_value_48 g1811 g1812 g157 g1813 hd_X12_wordOf rfl ⟨Nat.le_of_ble_eq_true rfl, Nat.le_of_ble_eq_true rfl⟩ ⟨Nat.le_of_ble_eq_true rfl, Nat.le_of_ble_eq_true rfl⟩ rfl (Nat.le_of_ble_eq_true rfl) ?_
      obtain ⟨r14, w12, y13, hf⟩ := cw_e hf
      refine e_callVi (pc := 51) (st := []) 12 C (pt_X12_stood hI y13) dX12_value_51 (by decide) hI.1 g1704 g1706 g61 g157 g1707 hd_X12_stood rfl ⟨Nat.le_of_ble_eq_true rfl, Nat.le_of_ble_eq_true rfl⟩ ⟨Nat.le_of_ble_eq_true rfl, Nat.le_of_ble_eq_true rfl⟩ rfl (Nat.le_of_ble_eq_true rfl) ?_
      rcases it_e hf with ⟨c15, hf⟩ | ⟨c15, hf⟩
      · refine e_if_ne (pc := 54) (tgt := 63) C dX12_value_54 (by decide) (fun q => absurd c15 q) (fun _ => ?_)
        obtain ⟨x16, ex16, hf⟩ := nn_e hf
        refine e_iinc (pc := 57) (v := x16) (lv2 := [(2, .int x16), (0, .ref M), (1, .int v1)]) C hm dX12_value_57 2 rfl (by rw [ex16]; rfl) (by decide) rfl ?_
        refine e_goto (pc := 60) (tgt := 38) C dX12_value_60 (by decide) ?_
        refine e_lv (lv2 := [(0, .ref M), (1, .int v1), (2, .int x16)]) [1, 2, 0] rfl ?_
        exact ih_38 x16 w12 hf
      · refine e_if_ne (pc := 54) (tgt := 63) C dX12_value_54 (by decide) (fun _ => ?_) (fun q => absurd q c15)
        exact hK_63 v2 w12 hf
set_option maxHeartbeats 4000000 in
set_option maxRecDepth 100000 in
theorem pt_X12_value {G : GG} {l : Launch} {M : Nat} {h : AH} (hI : MI h M) {w : MS} {y : MS} (hf : p_X12_value G w = some y) : Ct G l yX12_value cX12_value 3 none 5 109 0 0 [.ref M] (mh h M w) (none, mh h M y) := by
  refine ct_of (by decide) (Nat.le_of_ble_eq_true rfl) ?_
  intro p e s m args below meth c C hm hr hin
  have C : Cx G cX12_value RX12 p s m args meth c := C
  refine e_lv (lv2 := [(0, .ref M)]) [0] rfl ?_
  unfold p_X12_value at hf
  refine e_aload_n (pc := 0) C dX12_value_0 0 rfl rfl ?_
  obtain ⟨w1, y2, hf⟩ := ob_e hf
  refine e_callVv (pc := 1) (st := []) 12 C (pt_X12_blanks hI y2) dX12_value_1 (by decide) hI.1 g1686 g1688 g59 g157 g1689 hd_X12_blanks rfl ⟨Nat.le_of_ble_eq_true rfl, Nat.le_of_ble_eq_true rfl⟩ ⟨Nat.le_of_ble_eq_true rfl, Nat.le_of_ble_eq_true rfl⟩ rfl (Nat.le_of_ble_eq_true rfl) ?_
  refine e_aload_n (pc := 4) C dX12_value_4 0 rfl rfl ?_
  refine q_geti (pc := 5) 33 hI C dX12_value_5 (by decide) g1434 rfl ?_
  obtain ⟨x3, ex3, hf⟩ := nn_e hf
  refine e_topi ex3 ?_
  refine e_istore_n (pc := 8) (lv2 := [(1, .int x3), (0, .ref M)]) C hm dX12_value_8 rfl (by decide) rfl ?_
  refine e_aload_n (pc := 9) C dX12_value_9 1 rfl rfl ?_
  obtain ⟨r6, w4, y5, hf⟩ := cw_e hf
  refine e_callVi (pc := 10) (st := []) 12 C (pt_X12_isDigit hI y5) dX12_value_10 (by decide) hI.1 g1731 g1733 g67 g157 g1734 hd_X12_isDigit rfl ⟨Nat.le_of_ble_eq_true rfl, Nat.le_of_ble_eq_true rfl⟩ ⟨Nat.le_of_ble_eq_true rfl, Nat.le_of_ble_eq_true rfl⟩ rfl (Nat.le_of_ble_eq_true rfl) ?_
  rcases it_e hf with ⟨c7, hf⟩ | ⟨c7, hf⟩
  · refine e_if_eq (pc := 13) (tgt := 36) C dX12_value_13 (by decide) (fun _ => ?_) (fun q => absurd c7 q)
    refine e_iconst (v := (0 : Int32)) (pc := 36) C dX12_value_36 (by decide) ?_
    refine e_istore_n (pc := 37) (lv2 := [(2, .int (0 : Int32)), (1, .int x3), (0, .ref M)]) C hm dX12_value_37 rfl (by decide) rfl ?_
    refine e_lv (lv2 := [(0, .ref M), (1, .int x3), (2, .int (0 : Int32))]) [2, 1, 0] rfl ?_
    refine ep_X12_value_38 hI C hm hr hin (fun v2_63 h_63 hf => ?_) bN (0 : Int32) w4 hf
    refine e_iload_n (pc := 63) C dX12_value_63 2 rfl rfl ?_
    refine e_aload_n (pc := 64) C dX12_value_64 0 rfl rfl ?_
    refine q_geti (pc := 65) 41 hI C dX12_value_65 (by decide) g1442 rfl ?_
    rcases it_e hf with ⟨c17, hf⟩ | ⟨c17, hf⟩
    · refine e_icmp_ne (pc := 68) (tgt := 78) C dX12_value_68 (by decide) (fun q => absurd c17 q) (fun _ => ?_)
      refine e_aload_n (pc := 71) C dX12_value_71 0 rfl rfl ?_
      refine e_iconst (v := (0 : Int32)) (pc := 72) C dX12_value_72 (by decide) ?_
      refine e_iload_n (pc := 73) C dX12_value_73 1 rfl rfl ?_
      obtain ⟨w18, y19, hf⟩ := ob_e hf
      refine e_callVv (pc := 74) (st := []) 12 C (pt_X12_fails hI y19) dX12_value_74 (by decide) hI.1 g1710 g1712 g62 g157 g1713 hd_X12_fails rfl ⟨Nat.le_of_ble_eq_true rfl, Nat.le_of_ble_eq_true rfl⟩ ⟨Nat.le_of_ble_eq_true rfl, Nat.le_of_ble_eq_true rfl⟩ rfl (Nat.le_of_ble_eq_true rfl) ?_
      obtain rfl := so_e hf
      exact e_vret (pc := 77) C hr dX12_value_77 (Nat.le_of_ble_eq_true rfl) (Nat.le_of_ble_eq_true rfl)
    · refine e_icmp_ne (pc := 68) (tgt := 78) C dX12_value_68 (by decide) (fun _ => ?_) (fun q => absurd q c17)
      refine e_aload_n (pc := 78) C dX12_value_78 0 rfl rfl ?_
      refine e_iload_n (pc := 79) C dX12_value_79 1 rfl rfl ?_
      obtain ⟨w20, y21, hf⟩ := ob_e hf
      refine e_callVv (pc := 80) (st := []) 12 C (pt_X12_isCounted hI y21) dX12_value_80 (by decide) hI.1 g1803 g1805 g81 g157 g1806 hd_X12_isCounted rfl ⟨Nat.le_of_ble_eq_true rfl, Nat.le_of_ble_eq_true rfl⟩ ⟨Nat.le_of_ble_eq_true rfl, Nat.le_of_ble_eq_true rfl⟩ rfl (Nat.le_of_ble_eq_true rfl) ?_
      refine e_aload_n (pc := 83) C dX12_value_83 0 rfl rfl ?_
      refine e_dup (pc := 84) C dX12_value_84 rfl ?_
      refine q_geti (pc := 85) 33 hI C dX12_value_85 (by decide) g1434 rfl ?_
      refine e_iload_n (pc := 88) C dX12_value_88 2 rfl rfl ?_
      obtain ⟨r24, w22, y23, hf⟩ := cw_e hf
      refine e_callSi (pc := 89) (st := [.int (w20.1 0 33), .ref M]) C (pt_X12_wordOf hI y23) dX12_value_89 g1811 g1812 g157 g1813 hd_X12_wordOf rfl ⟨Nat.le_of_ble_eq_true rfl, Nat.le_of_ble_eq_true rfl⟩ ⟨Nat.le_of_ble_eq_true rfl, Nat.le_of_ble_eq_true rfl⟩ rfl (Nat.le_of_ble_eq_true rfl) ?_
      obtain ⟨r27, w25, y26, hf⟩ := cw_e hf
      refine e_callK (pc := 92) (st := [.int (w20.1 0 33), .ref M]) (sq_J0_length_8abf5 (pf_J0_length_8abf5 (h := h) (M := M) y26)) C (ct_J0_length_8abf5 (pf_J0_length_8abf5 (h := h) (M := M) y26)) dX12_value_92 g1708 g663 g664 g158 g665 hd_J0_length_8abf5 rfl ⟨Nat.le_of_ble_eq_true rfl, Nat.le_of_ble_eq_true rfl⟩ ⟨Nat.le_of_ble_eq_true rfl, Nat.le_of_ble_eq_true rfl⟩ rfl (Nat.le_of_ble_eq_true rfl) ?_
      refine e_iadd (pc := 95) C dX12_value_95 ?_
      refine q_puti (pc := 96) 33 hI C dX12_value_96 (by decide) g1434 rfl rfl rfl rfl ?_
      obtain ⟨w28, ew28, hf⟩ := nn_e hf
      refine q_hp ew28 ?_
      refine e_aload_n (pc := 99) C dX12_value_99 0 rfl rfl ?_
      refine e_iconst (v := (1 : Int32)) (pc := 100) C dX12_value_100 (by decide) ?_
      refine e_iload_n (pc := 101) C dX12_value_101 2 rfl rfl ?_
      obtain ⟨w29, y30, hf⟩ := ob_e hf
      refine e_callVv (pc := 102) (st := []) 12 C (pt_X12_entry hI y30) dX12_value_102 (by decide) hI.1 g1807 g1809 g82 g157 g1810 hd_X12_entry rfl ⟨Nat.le_of_ble_eq_true rfl, Nat.le_of_ble_eq_true rfl⟩ ⟨Nat.le_of_ble_eq_true rfl, Nat.le_of_ble_eq_true rfl⟩ rfl (Nat.le_of_ble_eq_true rfl) ?_
      obtain rfl := so_e hf
      exact e_vret (pc := 105) C hr dX12_value_105 (Nat.le_of_ble_eq_true rfl) (Nat.le_of_ble_eq_true rfl)
  · refine e_if_eq (pc := 13) (tgt := 36) C dX12_value_13 (by decide) (fun q => absurd q c7) (fun _ => ?_)
    refine e_aload_n (pc := 16) C dX12_value_16 1 rfl rfl ?_
    refine e_ldcw (pc := 17) C dX12_value_17 g1726 ?_
    obtain ⟨r33, w31, y32, hf⟩ := cw_e hf
    refine e_callVi (pc := 20) (st := []) 12 C (pt_X12_digits hI y32) dX12_value_20 (by decide) hI.1 g1727 g1729 g66 g157 g1730 hd_X12_digits rfl ⟨Nat.le_of_ble_eq_true rfl, Nat.le_of_ble_eq_true rfl⟩ ⟨Nat.le_of_ble_eq_true rfl, Nat.le_of_ble_eq_true rfl⟩ rfl (Nat.le_of_ble_eq_true rfl) ?_
    refine e_istore_n (pc := 23) (lv2 := [(2, .int r33), (1, .int x3), (0, .ref M)]) C hm dX12_value_23 rfl (by decide) rfl ?_
    refine e_aload_n (pc := 24) C dX12_value_24 2 rfl rfl ?_
    refine e_iload_n (pc := 25) C dX12_value_25 1 rfl rfl ?_
    obtain ⟨w34, y35, hf⟩ := ob_e hf
    refine e_callVv (pc := 26) (st := []) 12 C (pt_X12_isCounted hI y35) dX12_value_26 (by decide) hI.1 g1803 g1805 g81 g157 g1806 hd_X12_isCounted rfl ⟨Nat.le_of_ble_eq_true rfl, Nat.le_of_ble_eq_true rfl⟩ ⟨Nat.le_of_ble_eq_true rfl, Nat.le_of_ble_eq_true rfl⟩ rfl (Nat.le_of_ble_eq_true rfl) ?_
    refine e_aload_n (pc := 29) C dX12_value_29 2 rfl rfl ?_
    refine e_iconst (v := (0 : Int32)) (pc := 30) C dX12_value_30 (by decide) ?_
    refine e_iload_n (pc := 31) C dX12_value_31 0 rfl rfl ?_
    obtain ⟨w36, y37, hf⟩ := ob_e hf
    refine e_callVv (pc := 32) (st := []) 12 C (pt_X12_entry hI y37) dX12_value_32 (by decide) hI.1 g1807 g1809 g82 g157 g1810 hd_X12_entry rfl ⟨Nat.le_of_ble_eq_true rfl, Nat.le_of_ble_eq_true rfl⟩ ⟨Nat.le_of_ble_eq_true rfl, Nat.le_of_ble_eq_true rfl⟩ rfl (Nat.le_of_ble_eq_true rfl) ?_
    obtain rfl := so_e hf
    exact e_vret (pc := 35) C hr dX12_value_35 (Nat.le_of_ble_eq_true rfl) (Nat.le_of_ble_eq_true rfl)
theorem dX12_term_0 : decode cX12_term 0 = .ok (.aload_n 0, 1) := by decide +kernel
theorem dX12_term_1 : decode cX12_term 1 = .ok (.invokevirtual 305, 3) := by decide +kernel
theorem dX12_term_4 : decode cX12_term 4 = .ok (.aload_n 0, 1) := by decide +kernel
theorem dX12_term_5 : decode cX12_term 5 = .ok (.invokevirtual 266, 3) := by decide +kernel
theorem dX12_term_8 : decode cX12_term 8 = .ok (.aload_n 0, 1) := by decide +kernel
theorem dX12_term_9 : decode cX12_term 9 = .ok (.getfield 243, 3) := by decide +kernel
theorem dX12_term_12 : decode cX12_term 12 = .ok (.ifCond .ne 88, 3) := by decide +kernel
theorem dX12_term_15 : decode cX12_term 15 = .ok (.aload_n 0, 1) := by decide +kernel
theorem dX12_term_16 : decode cX12_term 16 = .ok (.invokevirtual 249, 3) := by decide +kernel
theorem dX12_term_19 : decode cX12_term 19 = .ok (.bipush 42, 2) := by decide +kernel
theorem dX12_term_21 : decode cX12_term 21 = .ok (.if_icmp .eq 21, 3) := by decide +kernel
theorem dX12_term_24 : decode cX12_term 24 = .ok (.aload_n 0, 1) := by decide +kernel
theorem dX12_term_25 : decode cX12_term 25 = .ok (.invokevirtual 249, 3) := by decide +kernel
theorem dX12_term_28 : decode cX12_term 28 = .ok (.bipush 47, 2) := by decide +kernel
theorem dX12_term_30 : decode cX12_term 30 = .ok (.if_icmp .eq 12, 3) := by decide +kernel
theorem dX12_term_33 : decode cX12_term 33 = .ok (.aload_n 0, 1) := by decide +kernel
theorem dX12_term_34 : decode cX12_term 34 = .ok (.invokevirtual 249, 3) := by decide +kernel
theorem dX12_term_37 : decode cX12_term 37 = .ok (.bipush 37, 2) := by decide +kernel
theorem dX12_term_39 : decode cX12_term 39 = .ok (.if_icmp .ne 61, 3) := by decide +kernel
theorem dX12_term_42 : decode cX12_term 42 = .ok (.aload_n 0, 1) := by decide +kernel
theorem dX12_term_43 : decode cX12_term 43 = .ok (.invokevirtual 249, 3) := by decide +kernel
theorem dX12_term_46 : decode cX12_term 46 = .ok (.bipush 42, 2) := by decide +kernel
theorem dX12_term_48 : decode cX12_term 48 = .ok (.if_icmp .ne 8, 3) := by decide +kernel
theorem dX12_term_51 : decode cX12_term 51 = .ok (.bipush 13, 2) := by decide +kernel
theorem dX12_term_53 : decode cX12_term 53 = .ok (.goto 19, 3) := by decide +kernel
theorem dX12_term_56 : decode cX12_term 56 = .ok (.aload_n 0, 1) := by decide +kernel
theorem dX12_term_57 : decode cX12_term 57 = .ok (.invokevirtual 249, 3) := by decide +kernel
theorem dX12_term_60 : decode cX12_term 60 = .ok (.bipush 47, 2) := by decide +kernel
theorem dX12_term_62 : decode cX12_term 62 = .ok (.if_icmp .ne 8, 3) := by decide +kernel
theorem dX12_term_65 : decode cX12_term 65 = .ok (.bipush 14, 2) := by decide +kernel
theorem dX12_term_67 : decode cX12_term 67 = .ok (.goto 5, 3) := by decide +kernel
theorem dX12_term_70 : decode cX12_term 70 = .ok (.bipush 15, 2) := by decide +kernel
theorem dX12_term_72 : decode cX12_term 72 = .ok (.istore_n 1, 1) := by decide +kernel
theorem dX12_term_73 : decode cX12_term 73 = .ok (.aload_n 0, 1) := by decide +kernel
theorem dX12_term_74 : decode cX12_term 74 = .ok (.dup, 1) := by decide +kernel
theorem dX12_term_75 : decode cX12_term 75 = .ok (.getfield 246, 3) := by decide +kernel
theorem dX12_term_78 : decode cX12_term 78 = .ok (.iconst 1, 1) := by decide +kernel
theorem dX12_term_79 : decode cX12_term 79 = .ok (.iadd, 1) := by decide +kernel
theorem dX12_term_80 : decode cX12_term 80 = .ok (.putfield 246, 3) := by decide +kernel
theorem dX12_term_83 : decode cX12_term 83 = .ok (.aload_n 0, 1) := by decide +kernel
theorem dX12_term_84 : decode cX12_term 84 = .ok (.invokevirtual 305, 3) := by decide +kernel
theorem dX12_term_87 : decode cX12_term 87 = .ok (.aload_n 0, 1) := by decide +kernel
theorem dX12_term_88 : decode cX12_term 88 = .ok (.iload_n 1, 1) := by decide +kernel
theorem dX12_term_89 : decode cX12_term 89 = .ok (.iconst 0, 1) := by decide +kernel
theorem dX12_term_90 : decode cX12_term 90 = .ok (.invokevirtual 298, 3) := by decide +kernel
theorem dX12_term_93 : decode cX12_term 93 = .ok (.aload_n 0, 1) := by decide +kernel
theorem dX12_term_94 : decode cX12_term 94 = .ok (.invokevirtual 266, 3) := by decide +kernel
theorem dX12_term_97 : decode cX12_term 97 = .ok (.goto (-89), 3) := by decide +kernel
theorem dX12_term_100 : decode cX12_term 100 = .ok (.return_, 1) := by decide +kernel
def P_X12_term_8 (G : GG) (self_8 : MS → Option (MS)) (w : MS) : Option (MS) :=
if (w.1 0 34) = 0 then (cw (p_X12_sign G w) fun r8 w6 =>
nn (fun (h_42 : MS) => (cw (p_X12_sign G h_42) fun r11 w9 =>
nn (fun (s0_72 : Int32) (h_72 : MS) => (nn (w_si h_72 0 33 ((h_72.1 0 33) + (1 : Int32))) fun w12 =>
ob (p_X12_value G w12) fun w13 =>
ob (p_X12_entry G s0_72 (0 : Int32) w13) fun w15 =>
ob (p_X12_blanks G w15) fun w17 =>
self_8 w17)) fun j_72 =>
if r11 = (42 : Int32) then (j_72 (13 : Int32) w9) else
cw (p_X12_sign G w9) fun r22 w20 =>
if r22 = (47 : Int32) then (j_72 (14 : Int32) w20) else
j_72 (15 : Int32) w20)) fun j_42 =>
if r8 = (42 : Int32) then (j_42 w6) else
cw (p_X12_sign G w6) fun r27 w25 =>
if r27 = (47 : Int32) then (j_42 w25) else
cw (p_X12_sign G w25) fun r31 w29 =>
if r31 = (37 : Int32) then (j_42 w29) else
some w29) else
some w
def p_X12_term (G : GG) (w : MS) : Option (MS) :=
ob (p_X12_value G w) fun w1 =>
ob (p_X12_blanks G w1) fun w3 =>
lw0 (P_X12_term_8 G ) bN w3
set_option maxHeartbeats 4000000 in
set_option maxRecDepth 100000 in
theorem ep_X12_term_8 {G : GG} {p : Program} {l : Launch} {e : Env} {s : State} {m : MethodId} {args : Array Value} {below : List Frame} {meth : Method} {c : Code} {y : MS} {M : Nat} {h : AH} (hI : MI h M) (C : Cx G cX12_term RX12 p s m args meth c) (hm : c.maxLocals = 2) (hr : meth.sig.returnType = none) (hin : meth.name = yX12_term.name)  :
    ∀ (n : Nat) (w : MS), lw0 (P_X12_term_8 G) n w = some y → EE G p l e ({ frames := 6, cells := 0, slots := 0, locals := 131 } : Room) s m args below meth c (none, mh h M y) 0 0 8 [(0, .ref M)] [] (mh h M w) 0 0 := by
  intro n
  induction n with
  | zero => intro w hf; exact (no_e hf).elim
  | succ n ih_8 =>
    intro w hf
    have hf : P_X12_term_8 G (lw0 (P_X12_term_8 G) n) w = some y := hf
    generalize lw0 (P_X12_term_8 G) n = self_8 at hf ih_8
    unfold P_X12_term_8 at hf
    refine e_aload_n (pc := 8) C dX12_term_8 0 rfl rfl ?_
    refine q_geti (pc := 9) 34 hI C dX12_term_9 (by decide) g1435 rfl ?_
    rcases it_e hf with ⟨c5, hf⟩ | ⟨c5, hf⟩
    · refine e_if_ne (pc := 12) (tgt := 100) C dX12_term_12 (by decide) (fun q => absurd c5 q) (fun _ => ?_)
      refine e_aload_n (pc := 15) C dX12_term_15 0 rfl rfl ?_
      obtain ⟨r8, w6, y7, hf⟩ := cw_e hf
      refine e_callVi (pc := 16) (st := []) 12 C (pt_X12_sign hI y7) dX12_term_16 (by decide) hI.1 g1690 g1692 g60 g157 g1693 hd_X12_sign rfl ⟨Nat.le_of_ble_eq_true rfl, Nat.le_of_ble_eq_true rfl⟩ ⟨Nat.le_of_ble_eq_true rfl, Nat.le_of_ble_eq_true rfl⟩ rfl (Nat.le_of_ble_eq_true rfl) ?_
      refine e_bipush (v := (42 : Int32)) (pc := 19) C dX12_term_19 (by decide) ?_
      obtain ⟨j_42, ej_42, hf⟩ := nn_e hf
      have W_42 : ∀ (h_42 : MS), j_42 h_42 = some y → EE G p l e ({ frames := 6, cells := 0, slots := 0, locals := 131 } : Room) s m args below meth c (none, mh h M y) 0 0 42 [(0, .ref M)] [] (mh h M h_42) 0 0 := by
        intro h_42 hf
        rw [ej_42] at hf
        refine e_aload_n (pc := 42) C dX12_term_42 0 rfl rfl ?_
        obtain ⟨r11, w9, y10, hf⟩ := cw_e hf
        refine e_callVi (pc := 43) (st := []) 12 C (pt_X12_sign hI y10) dX12_term_43 (by decide) hI.1 g1690 g1692 g60 g157 g1693 hd_X12_sign rfl ⟨Nat.le_of_ble_eq_true rfl, Nat.le_of_ble_eq_true rfl⟩ ⟨Nat.le_of_ble_eq_true rfl, Nat.le_of_ble_eq_true rfl⟩ rfl (Nat.le_of_ble_eq_true rfl) ?_
        refine e_bipush (v := (42 : Int32)) (pc := 46) C dX12_term_46 (by decide) ?_
        obtain ⟨j_72, ej_72, hf⟩ := nn_e hf
        have W_72 : ∀ (s0_72 : Int32) (h_72 : MS), j_72 s0_72 h_72 = some y → EE G p l e ({ frames := 6, cells := 0, slots := 0, locals := 131 } : Room) s m args below meth c (none, mh h M y) 0 0 72 [(0, .ref M)] [.int s0_72] (mh h M h_72) 0 0 := by
          intro s0_72 h_72 hf
          rw [ej_72] at hf
          refine e_istore_n (pc := 72) (lv2 := [(1, .int s0_72), (0, .ref M)]) C hm dX12_term_72 rfl (by decide) rfl ?_
          refine e_aload_n (pc := 73) C dX12_term_73 1 rfl rfl ?_
          refine e_dup (pc := 74) C dX12_term_74 rfl ?_
          refine q_geti (pc := 75) 33 hI C dX12_term_75 (by decide) g1434 rfl ?_
          refine e_iconst (v := (1 : Int32)) (pc := 78) C dX12_term_78 (by decide) ?_
          refine e_iadd (pc := 79) C dX12_term_79 ?_
          refine q_puti (pc := 80) 33 hI C dX12_term_80 (by decide) g1434 rfl rfl rfl rfl ?_
          obtain ⟨w12, ew12, hf⟩ := nn_e hf
          refine q_hp ew12 ?_
          refine e_aload_n (pc := 83) C dX12_term_83 1 rfl rfl ?_
          obtain ⟨w13, y14, hf⟩ := ob_e hf
          refine e_callVv (pc := 84) (st := []) 12 C (pt_X12_value hI y14) dX12_term_84 (by decide) hI.1 g1799 g1801 g80 g157 g1802 hd_X12_value rfl ⟨Nat.le_of_ble_eq_true rfl, Nat.le_of_ble_eq_true rfl⟩ ⟨Nat.le_of_ble_eq_true rfl, Nat.le_of_ble_eq_true rfl⟩ rfl (Nat.le_of_ble_eq_true rfl) ?_
          refine e_aload_n (pc := 87) C dX12_term_87 1 rfl rfl ?_
          refine e_iload_n (pc := 88) C dX12_term_88 0 rfl rfl ?_
          refine e_iconst (v := (0 : Int32)) (pc := 89) C dX12_term_89 (by decide) ?_
          obtain ⟨w15, y16, hf⟩ := ob_e hf
          refine e_callVv (pc := 90) (st := []) 12 C (pt_X12_entry hI y16) dX12_term_90 (by decide) hI.1 g1807 g1809 g82 g157 g1810 hd_X12_entry rfl ⟨Nat.le_of_ble_eq_true rfl, Nat.le_of_ble_eq_true rfl⟩ ⟨Nat.le_of_ble_eq_true rfl, Nat.le_of_ble_eq_true rfl⟩ rfl (Nat.le_of_ble_eq_true rfl) ?_
          refine e_aload_n (pc := 93) C dX12_term_93 1 rfl rfl ?_
          obtain ⟨w17, y18, hf⟩ := ob_e hf
          refine e_callVv (pc := 94) (st := []) 12 C (pt_X12_blanks hI y18) dX12_term_94 (by decide) hI.1 g1686 g1688 g59 g157 g1689 hd_X12_blanks rfl ⟨Nat.le_of_ble_eq_true rfl, Nat.le_of_ble_eq_true rfl⟩ ⟨Nat.le_of_ble_eq_true rfl, Nat.le_of_ble_eq_true rfl⟩ rfl (Nat.le_of_ble_eq_true rfl) ?_
          refine e_goto (pc := 97) (tgt := 8) C dX12_term_97 (by decide) ?_
          refine e_lv (lv2 := [(0, .ref M)]) [1] rfl ?_
          exact ih_8 w17 hf
        rcases it_e hf with ⟨c19, hf⟩ | ⟨c19, hf⟩
        · refine e_icmp_ne (pc := 48) (tgt := 56) C dX12_term_48 (by decide) (fun q => absurd c19 q) (fun _ => ?_)
          refine e_bipush (v := (13 : Int32)) (pc := 51) C dX12_term_51 (by decide) ?_
          refine e_goto (pc := 53) (tgt := 72) C dX12_term_53 (by decide) ?_
          exact W_72 (13 : Int32) w9 hf
        · refine e_icmp_ne (pc := 48) (tgt := 56) C dX12_term_48 (by decide) (fun _ => ?_) (fun q => absurd q c19)
          refine e_aload_n (pc := 56) C dX12_term_56 0 rfl rfl ?_
          obtain ⟨r22, w20, y21, hf⟩ := cw_e hf
          refine e_callVi (pc := 57) (st := []) 12 C (pt_X12_sign hI y21) dX12_term_57 (by decide) hI.1 g1690 g1692 g60 g157 g1693 hd_X12_sign rfl ⟨Nat.le_of_ble_eq_true rfl, Nat.le_of_ble_eq_true rfl⟩ ⟨Nat.le_of_ble_eq_true rfl, Nat.le_of_ble_eq_true rfl⟩ rfl (Nat.le_of_ble_eq_true rfl) ?_
          refine e_bipush (v := (47 : Int32)) (pc := 60) C dX12_term_60 (by decide) ?_
          rcases it_e hf with ⟨c23, hf⟩ | ⟨c23, hf⟩
          · refine e_icmp_ne (pc := 62) (tgt := 70) C dX12_term_62 (by decide) (fun q => absurd c23 q) (fun _ => ?_)
            refine e_bipush (v := (14 : Int32)) (pc := 65) C dX12_term_65 (by decide) ?_
            refine e_goto (pc := 67) (tgt := 72) C dX12_term_67 (by decide) ?_
            exact W_72 (14 : Int32) w20 hf
          · refine e_icmp_ne (pc := 62) (tgt := 70) C dX12_term_62 (by decide) (fun _ => ?_) (fun q => absurd q c23)
            refine e_bipush (v := (15 : Int32)) (pc := 70) C dX12_term_70 (by decide) ?_
            exact W_72 (15 : Int32) w20 hf
      rcases it_e hf with ⟨c24, hf⟩ | ⟨c24, hf⟩
      · refine e_icmp_eq (pc := 21) (tgt := 42) C dX12_term_21 (by decide) (fun _ => ?_) (fun q => absurd c24 q)
        exact W_42 w6 hf
      · refine e_icmp_eq (pc := 21) (tgt := 42) C dX12_term_21 (by decide) (fun q => absurd q c24) (fun _ => ?_)
        refine e_aload_n (pc := 24) C dX12_term_24 0 rfl rfl ?_
        obtain ⟨r27, w25, y26, hf⟩ := cw_e hf
        refine e_callVi (pc := 25) (st := []) 12 C (pt_X12_sign hI y26) dX12_term_25 (by decide) hI.1 g1690 g1692 g60 g157 g1693 hd_X12_sign rfl ⟨Nat.le_of_ble_eq_true rfl, Nat.le_of_ble_eq_true rfl⟩ ⟨Nat.le_of_ble_eq_true rfl, Nat.le_of_ble_eq_true rfl⟩ rfl (Nat.le_of_ble_eq_true rfl) ?_
        refine e_bipush (v := (47 : Int32)) (pc := 28) C dX12_term_28 (by decide) ?_
        rcases it_e hf with ⟨c28, hf⟩ | ⟨c28, hf⟩
        · refine e_icmp_eq (pc := 30) (tgt := 42) C dX12_term_30 (by decide) (fun _ => ?_) (fun q => absurd c28 q)
          exact W_42 w25 hf
        · refine e_icmp_eq (pc := 30) (tgt := 42) C dX12_term_30 (by decide) (fun q => absurd q c28) (fun _ => ?_)
          refine e_aload_n (pc := 33) C dX12_term_33 0 rfl rfl ?_
          obtain ⟨r31, w29, y30, hf⟩ := cw_e hf
          refine e_callVi (pc := 34) (st := []) 12 C (pt_X12_sign hI y30) dX12_term_34 (by decide) hI.1 g1690 g1692 g60 g157 g1693 hd_X12_sign rfl ⟨Nat.le_of_ble_eq_true rfl, Nat.le_of_ble_eq_true rfl⟩ ⟨Nat.le_of_ble_eq_true rfl, Nat.le_of_ble_eq_true rfl⟩ rfl (Nat.le_of_ble_eq_true rfl) ?_
          refine e_bipush (v := (37 : Int32)) (pc := 37) C dX12_term_37 (by decide) ?_
          rcases it_e hf with ⟨c32, hf⟩ | ⟨c32, hf⟩
          · refine e_icmp_ne (pc := 39) (tgt := 100) C dX12_term_39 (by decide) (fun q => absurd c32 q) (fun _ => ?_)
            exact W_42 w29 hf
          · refine e_icmp_ne (pc := 39) (tgt := 100) C dX12_term_39 (by decide) (fun _ => ?_) (fun q => absurd q c32)
            obtain rfl := so_e hf
            exact e_vret (pc := 100) C hr dX12_term_100 (Nat.le_of_ble_eq_true rfl) (Nat.le_of_ble_eq_true rfl)
    · refine e_if_ne (pc := 12) (tgt := 100) C dX12_term_12 (by decide) (fun _ => ?_) (fun q => absurd q c5)
      obtain rfl := so_e hf
      exact e_vret (pc := 100) C hr dX12_term_100 (Nat.le_of_ble_eq_true rfl) (Nat.le_of_ble_eq_true rfl)
set_option maxHeartbeats 4000000 in
set_option maxRecDepth 100000 in
theorem pt_X12_term {G : GG} {l : Launch} {M : Nat} {h : AH} (hI : MI h M) {w : MS} {y : MS} (hf : p_X12_term G w = some y) : Ct G l yX12_term cX12_term 2 none 6 131 0 0 [.ref M] (mh h M w) (none, mh h M y) := by
  refine ct_of (by decide) (Nat.le_of_ble_eq_true rfl) ?_
  intro p e s m args below meth c C hm hr hin
  have C : Cx G cX12_term RX12 p s m args meth c := C
  refine e_lv (lv2 := [(0, .ref M)]) [0] rfl ?_
  unfold p_X12_term at hf
  refine e_aload_n (pc := 0) C dX12_term_0 0 rfl rfl ?_
  obtain ⟨w1, y2, hf⟩ := ob_e hf
  refine e_callVv (pc := 1) (st := []) 12 C (pt_X12_value hI y2) dX12_term_1 (by decide) hI.1 g1799 g1801 g80 g157 g1802 hd_X12_value rfl ⟨Nat.le_of_ble_eq_true rfl, Nat.le_of_ble_eq_true rfl⟩ ⟨Nat.le_of_ble_eq_true rfl, Nat.le_of_ble_eq_true rfl⟩ rfl (Nat.le_of_ble_eq_true rfl) ?_
  refine e_aload_n (pc := 4) C dX12_term_4 0 rfl rfl ?_
  obtain ⟨w3, y4, hf⟩ := ob_e hf
  refine e_callVv (pc := 5) (st := []) 12 C (pt_X12_blanks hI y4) dX12_term_5 (by decide) hI.1 g1686 g1688 g59 g157 g1689 hd_X12_blanks rfl ⟨Nat.le_of_ble_eq_true rfl, Nat.le_of_ble_eq_true rfl⟩ ⟨Nat.le_of_ble_eq_true rfl, Nat.le_of_ble_eq_true rfl⟩ rfl (Nat.le_of_ble_eq_true rfl) ?_
  exact ep_X12_term_8 hI C hm hr hin bN w3 hf
theorem dX12_sum_0 : decode cX12_sum 0 = .ok (.aload_n 0, 1) := by decide +kernel
theorem dX12_sum_1 : decode cX12_sum 1 = .ok (.invokevirtual 308, 3) := by decide +kernel
theorem dX12_sum_4 : decode cX12_sum 4 = .ok (.aload_n 0, 1) := by decide +kernel
theorem dX12_sum_5 : decode cX12_sum 5 = .ok (.getfield 243, 3) := by decide +kernel
theorem dX12_sum_8 : decode cX12_sum 8 = .ok (.ifCond .ne 59, 3) := by decide +kernel
theorem dX12_sum_11 : decode cX12_sum 11 = .ok (.aload_n 0, 1) := by decide +kernel
theorem dX12_sum_12 : decode cX12_sum 12 = .ok (.invokevirtual 249, 3) := by decide +kernel
theorem dX12_sum_15 : decode cX12_sum 15 = .ok (.bipush 43, 2) := by decide +kernel
theorem dX12_sum_17 : decode cX12_sum 17 = .ok (.if_icmp .eq 12, 3) := by decide +kernel
theorem dX12_sum_20 : decode cX12_sum 20 = .ok (.aload_n 0, 1) := by decide +kernel
theorem dX12_sum_21 : decode cX12_sum 21 = .ok (.invokevirtual 249, 3) := by decide +kernel
theorem dX12_sum_24 : decode cX12_sum 24 = .ok (.bipush 45, 2) := by decide +kernel
theorem dX12_sum_26 : decode cX12_sum 26 = .ok (.if_icmp .ne 41, 3) := by decide +kernel
theorem dX12_sum_29 : decode cX12_sum 29 = .ok (.aload_n 0, 1) := by decide +kernel
theorem dX12_sum_30 : decode cX12_sum 30 = .ok (.invokevirtual 249, 3) := by decide +kernel
theorem dX12_sum_33 : decode cX12_sum 33 = .ok (.bipush 43, 2) := by decide +kernel
theorem dX12_sum_35 : decode cX12_sum 35 = .ok (.if_icmp .ne 7, 3) := by decide +kernel
theorem dX12_sum_38 : decode cX12_sum 38 = .ok (.iconst 2, 1) := by decide +kernel
theorem dX12_sum_39 : decode cX12_sum 39 = .ok (.goto 4, 3) := by decide +kernel
theorem dX12_sum_42 : decode cX12_sum 42 = .ok (.iconst 3, 1) := by decide +kernel
theorem dX12_sum_43 : decode cX12_sum 43 = .ok (.istore_n 1, 1) := by decide +kernel
theorem dX12_sum_44 : decode cX12_sum 44 = .ok (.aload_n 0, 1) := by decide +kernel
theorem dX12_sum_45 : decode cX12_sum 45 = .ok (.dup, 1) := by decide +kernel
theorem dX12_sum_46 : decode cX12_sum 46 = .ok (.getfield 246, 3) := by decide +kernel
theorem dX12_sum_49 : decode cX12_sum 49 = .ok (.iconst 1, 1) := by decide +kernel
theorem dX12_sum_50 : decode cX12_sum 50 = .ok (.iadd, 1) := by decide +kernel
theorem dX12_sum_51 : decode cX12_sum 51 = .ok (.putfield 246, 3) := by decide +kernel
theorem dX12_sum_54 : decode cX12_sum 54 = .ok (.aload_n 0, 1) := by decide +kernel
theorem dX12_sum_55 : decode cX12_sum 55 = .ok (.invokevirtual 308, 3) := by decide +kernel
theorem dX12_sum_58 : decode cX12_sum 58 = .ok (.aload_n 0, 1) := by decide +kernel
theorem dX12_sum_59 : decode cX12_sum 59 = .ok (.iload_n 1, 1) := by decide +kernel
theorem dX12_sum_60 : decode cX12_sum 60 = .ok (.iconst 0, 1) := by decide +kernel
theorem dX12_sum_61 : decode cX12_sum 61 = .ok (.invokevirtual 298, 3) := by decide +kernel
theorem dX12_sum_64 : decode cX12_sum 64 = .ok (.goto (-60), 3) := by decide +kernel
theorem dX12_sum_67 : decode cX12_sum 67 = .ok (.return_, 1) := by decide +kernel
def P_X12_sum_4 (G : GG) (self_4 : MS → Option (MS)) (w : MS) : Option (MS) :=
if (w.1 0 34) = 0 then (cw (p_X12_sign G w) fun r6 w4 =>
nn (fun (h_29 : MS) => (cw (p_X12_sign G h_29) fun r9 w7 =>
nn (fun (s0_43 : Int32) => (nn (w_si w7 0 33 ((w7.1 0 33) + (1 : Int32))) fun w10 =>
ob (p_X12_term G w10) fun w11 =>
ob (p_X12_entry G s0_43 (0 : Int32) w11) fun w13 =>
self_4 w13)) fun j_43 =>
if r9 = (43 : Int32) then (j_43 (2 : Int32)) else
j_43 (3 : Int32))) fun j_29 =>
if r6 = (43 : Int32) then (j_29 w4) else
cw (p_X12_sign G w4) fun r19 w17 =>
if r19 = (45 : Int32) then (j_29 w17) else
some w17) else
some w
def p_X12_sum (G : GG) (w : MS) : Option (MS) :=
ob (p_X12_term G w) fun w1 =>
lw0 (P_X12_sum_4 G ) bN w1
set_option maxHeartbeats 4000000 in
set_option maxRecDepth 100000 in
theorem ep_X12_sum_4 {G : GG} {p : Program} {l : Launch} {e : Env} {s : State} {m : MethodId} {args : Array Value} {below : List Frame} {meth : Method} {c : Code} {y : MS} {M : Nat} {h : AH} (hI : MI h M) (C : Cx G cX12_sum RX12 p s m args meth c) (hm : c.maxLocals = 2) (hr : meth.sig.returnType = none) (hin : meth.name = yX12_sum.name)  :
    ∀ (n : Nat) (w : MS), lw0 (P_X12_sum_4 G) n w = some y → EE G p l e ({ frames := 7, cells := 0, slots := 0, locals := 152 } : Room) s m args below meth c (none, mh h M y) 0 0 4 [(0, .ref M)] [] (mh h M w) 0 0 := by
  intro n
  induction n with
  | zero => intro w hf; exact (no_e hf).elim
  | succ n ih_4 =>
    intro w hf
    have hf : P_X12_sum_4 G (lw0 (P_X12_sum_4 G) n) w = some y := hf
    generalize lw0 (P_X12_sum_4 G) n = self_4 at hf ih_4
    unfold P_X12_sum_4 at hf
    refine e_aload_n (pc := 4) C dX12_sum_4 0 rfl rfl ?_
    refine q_geti (pc := 5) 34 hI C dX12_sum_5 (by decide) g1435 rfl ?_
    rcases it_e hf with ⟨c3, hf⟩ | ⟨c3, hf⟩
    · refine e_if_ne (pc := 8) (tgt := 67) C dX12_sum_8 (by decide) (fun q => absurd c3 q) (fun _ => ?_)
      refine e_aload_n (pc := 11) C dX12_sum_11 0 rfl rfl ?_
      obtain ⟨r6, w4, y5, hf⟩ := cw_e hf
      refine e_callVi (pc := 12) (st := []) 12 C (pt_X12_sign hI y5) dX12_sum_12 (by decide) hI.1 g1690 g1692 g60 g157 g1693 hd_X12_sign rfl ⟨Nat.le_of_ble_eq_true rfl, Nat.le_of_ble_eq_true rfl⟩ ⟨Nat.le_of_ble_eq_true rfl, Nat.le_of_ble_eq_true rfl⟩ rfl (Nat.le_of_ble_eq_true rfl) ?_
      refine e_bipush (v := (43 : Int32)) (pc := 15) C dX12_sum_15 (by decide) ?_
      obtain ⟨j_29, ej_29, hf⟩ := nn_e hf
      have W_29 : ∀ (h_29 : MS), j_29 h_29 = some y → EE G p l e ({ frames := 7, cells := 0, slots := 0, locals := 152 } : Room) s m args below meth c (none, mh h M y) 0 0 29 [(0, .ref M)] [] (mh h M h_29) 0 0 := by
        intro h_29 hf
        rw [ej_29] at hf
        refine e_aload_n (pc := 29) C dX12_sum_29 0 rfl rfl ?_
        obtain ⟨r9, w7, y8, hf⟩ := cw_e hf
        refine e_callVi (pc := 30) (st := []) 12 C (pt_X12_sign hI y8) dX12_sum_30 (by decide) hI.1 g1690 g1692 g60 g157 g1693 hd_X12_sign rfl ⟨Nat.le_of_ble_eq_true rfl, Nat.le_of_ble_eq_true rfl⟩ ⟨Nat.le_of_ble_eq_true rfl, Nat.le_of_ble_eq_true rfl⟩ rfl (Nat.le_of_ble_eq_true rfl) ?_
        refine e_bipush (v := (43 : Int32)) (pc := 33) C dX12_sum_33 (by decide) ?_
        obtain ⟨j_43, ej_43, hf⟩ := nn_e hf
        have W_43 : ∀ (s0_43 : Int32), j_43 s0_43 = some y → EE G p l e ({ frames := 7, cells := 0, slots := 0, locals := 152 } : Room) s m args below meth c (none, mh h M y) 0 0 43 [(0, .ref M)] [.int s0_43] (mh h M w7) 0 0 := by
          intro s0_43 hf
          rw [ej_43] at hf
          refine e_istore_n (pc := 43) (lv2 := [(1, .int s0_43), (0, .ref M)]) C hm dX12_sum_43 rfl (by decide) rfl ?_
          refine e_aload_n (pc := 44) C dX12_sum_44 1 rfl rfl ?_
          refine e_dup (pc := 45) C dX12_sum_45 rfl ?_
          refine q_geti (pc := 46) 33 hI C dX12_sum_46 (by decide) g1434 rfl ?_
          refine e_iconst (v := (1 : Int32)) (pc := 49) C dX12_sum_49 (by decide) ?_
          refine e_iadd (pc := 50) C dX12_sum_50 ?_
          refine q_puti (pc := 51) 33 hI C dX12_sum_51 (by decide) g1434 rfl rfl rfl rfl ?_
          obtain ⟨w10, ew10, hf⟩ := nn_e hf
          refine q_hp ew10 ?_
          refine e_aload_n (pc := 54) C dX12_sum_54 1 rfl rfl ?_
          obtain ⟨w11, y12, hf⟩ := ob_e hf
          refine e_callVv (pc := 55) (st := []) 12 C (pt_X12_term hI y12) dX12_sum_55 (by decide) hI.1 g1795 g1797 g79 g157 g1798 hd_X12_term rfl ⟨Nat.le_of_ble_eq_true rfl, Nat.le_of_ble_eq_true rfl⟩ ⟨Nat.le_of_ble_eq_true rfl, Nat.le_of_ble_eq_true rfl⟩ rfl (Nat.le_of_ble_eq_true rfl) ?_
          refine e_aload_n (pc := 58) C dX12_sum_58 1 rfl rfl ?_
          refine e_iload_n (pc := 59) C dX12_sum_59 0 rfl rfl ?_
          refine e_iconst (v := (0 : Int32)) (pc := 60) C dX12_sum_60 (by decide) ?_
          obtain ⟨w13, y14, hf⟩ := ob_e hf
          refine e_callVv (pc := 61) (st := []) 12 C (pt_X12_entry hI y14) dX12_sum_61 (by decide) hI.1 g1807 g1809 g82 g157 g1810 hd_X12_entry rfl ⟨Nat.le_of_ble_eq_true rfl, Nat.le_of_ble_eq_true rfl⟩ ⟨Nat.le_of_ble_eq_true rfl, Nat.le_of_ble_eq_true rfl⟩ rfl (Nat.le_of_ble_eq_true rfl) ?_
          refine e_goto (pc := 64) (tgt := 4) C dX12_sum_64 (by decide) ?_
          refine e_lv (lv2 := [(0, .ref M)]) [1] rfl ?_
          exact ih_4 w13 hf
        rcases it_e hf with ⟨c15, hf⟩ | ⟨c15, hf⟩
        · refine e_icmp_ne (pc := 35) (tgt := 42) C dX12_sum_35 (by decide) (fun q => absurd c15 q) (fun _ => ?_)
          refine e_iconst (v := (2 : Int32)) (pc := 38) C dX12_sum_38 (by decide) ?_
          refine e_goto (pc := 39) (tgt := 43) C dX12_sum_39 (by decide) ?_
          exact W_43 (2 : Int32) hf
        · refine e_icmp_ne (pc := 35) (tgt := 42) C dX12_sum_35 (by decide) (fun _ => ?_) (fun q => absurd q c15)
          refine e_iconst (v := (3 : Int32)) (pc := 42) C dX12_sum_42 (by decide) ?_
          exact W_43 (3 : Int32) hf
      rcases it_e hf with ⟨c16, hf⟩ | ⟨c16, hf⟩
      · refine e_icmp_eq (pc := 17) (tgt := 29) C dX12_sum_17 (by decide) (fun _ => ?_) (fun q => absurd c16 q)
        exact W_29 w4 hf
      · refine e_icmp_eq (pc := 17) (tgt := 29) C dX12_sum_17 (by decide) (fun q => absurd q c16) (fun _ => ?_)
        refine e_aload_n (pc := 20) C dX12_sum_20 0 rfl rfl ?_
        obtain ⟨r19, w17, y18, hf⟩ := cw_e hf
        refine e_callVi (pc := 21) (st := []) 12 C (pt_X12_sign hI y18) dX12_sum_21 (by decide) hI.1 g1690 g1692 g60 g157 g1693 hd_X12_sign rfl ⟨Nat.le_of_ble_eq_true rfl, Nat.le_of_ble_eq_true rfl⟩ ⟨Nat.le_of_ble_eq_true rfl, Nat.le_of_ble_eq_true rfl⟩ rfl (Nat.le_of_ble_eq_true rfl) ?_
        refine e_bipush (v := (45 : Int32)) (pc := 24) C dX12_sum_24 (by decide) ?_
        rcases it_e hf with ⟨c20, hf⟩ | ⟨c20, hf⟩
        · refine e_icmp_ne (pc := 26) (tgt := 67) C dX12_sum_26 (by decide) (fun q => absurd c20 q) (fun _ => ?_)
          exact W_29 w17 hf
        · refine e_icmp_ne (pc := 26) (tgt := 67) C dX12_sum_26 (by decide) (fun _ => ?_) (fun q => absurd q c20)
          obtain rfl := so_e hf
          exact e_vret (pc := 67) C hr dX12_sum_67 (Nat.le_of_ble_eq_true rfl) (Nat.le_of_ble_eq_true rfl)
    · refine e_if_ne (pc := 8) (tgt := 67) C dX12_sum_8 (by decide) (fun _ => ?_) (fun q => absurd q c3)
      obtain rfl := so_e hf
      exact e_vret (pc := 67) C hr dX12_sum_67 (Nat.le_of_ble_eq_true rfl) (Nat.le_of_ble_eq_true rfl)
set_option maxHeartbeats 4000000 in
set_option maxRecDepth 100000 in
theorem pt_X12_sum {G : GG} {l : Launch} {M : Nat} {h : AH} (hI : MI h M) {w : MS} {y : MS} (hf : p_X12_sum G w = some y) : Ct G l yX12_sum cX12_sum 2 none 7 152 0 0 [.ref M] (mh h M w) (none, mh h M y) := by
  refine ct_of (by decide) (Nat.le_of_ble_eq_true rfl) ?_
  intro p e s m args below meth c C hm hr hin
  have C : Cx G cX12_sum RX12 p s m args meth c := C
  refine e_lv (lv2 := [(0, .ref M)]) [0] rfl ?_
  unfold p_X12_sum at hf
  refine e_aload_n (pc := 0) C dX12_sum_0 0 rfl rfl ?_
  obtain ⟨w1, y2, hf⟩ := ob_e hf
  refine e_callVv (pc := 1) (st := []) 12 C (pt_X12_term hI y2) dX12_sum_1 (by decide) hI.1 g1795 g1797 g79 g157 g1798 hd_X12_term rfl ⟨Nat.le_of_ble_eq_true rfl, Nat.le_of_ble_eq_true rfl⟩ ⟨Nat.le_of_ble_eq_true rfl, Nat.le_of_ble_eq_true rfl⟩ rfl (Nat.le_of_ble_eq_true rfl) ?_
  exact ep_X12_sum_4 hI C hm hr hin bN w1 hf
theorem dX12_compared_0 : decode cX12_compared 0 = .ok (.aload_n 0, 1) := by decide +kernel
theorem dX12_compared_1 : decode cX12_compared 1 = .ok (.invokevirtual 311, 3) := by decide +kernel
theorem dX12_compared_4 : decode cX12_compared 4 = .ok (.aload_n 0, 1) := by decide +kernel
theorem dX12_compared_5 : decode cX12_compared 5 = .ok (.invokevirtual 249, 3) := by decide +kernel
theorem dX12_compared_8 : decode cX12_compared 8 = .ok (.istore_n 1, 1) := by decide +kernel
theorem dX12_compared_9 : decode cX12_compared 9 = .ok (.iload_n 1, 1) := by decide +kernel
theorem dX12_compared_10 : decode cX12_compared 10 = .ok (.bipush 60, 2) := by decide +kernel
theorem dX12_compared_12 : decode cX12_compared 12 = .ok (.if_icmp .eq 25, 3) := by decide +kernel
theorem dX12_compared_15 : decode cX12_compared 15 = .ok (.iload_n 1, 1) := by decide +kernel
theorem dX12_compared_16 : decode cX12_compared 16 = .ok (.bipush 61, 2) := by decide +kernel
theorem dX12_compared_18 : decode cX12_compared 18 = .ok (.if_icmp .eq 19, 3) := by decide +kernel
theorem dX12_compared_21 : decode cX12_compared 21 = .ok (.iload_n 1, 1) := by decide +kernel
theorem dX12_compared_22 : decode cX12_compared 22 = .ok (.bipush 62, 2) := by decide +kernel
theorem dX12_compared_24 : decode cX12_compared 24 = .ok (.if_icmp .eq 13, 3) := by decide +kernel
theorem dX12_compared_27 : decode cX12_compared 27 = .ok (.aload_n 0, 1) := by decide +kernel
theorem dX12_compared_28 : decode cX12_compared 28 = .ok (.iconst 0, 1) := by decide +kernel
theorem dX12_compared_29 : decode cX12_compared 29 = .ok (.aload_n 0, 1) := by decide +kernel
theorem dX12_compared_30 : decode cX12_compared 30 = .ok (.getfield 246, 3) := by decide +kernel
theorem dX12_compared_33 : decode cX12_compared 33 = .ok (.invokevirtual 282, 3) := by decide +kernel
theorem dX12_compared_36 : decode cX12_compared 36 = .ok (.return_, 1) := by decide +kernel
theorem dX12_compared_37 : decode cX12_compared 37 = .ok (.aload_n 0, 1) := by decide +kernel
theorem dX12_compared_38 : decode cX12_compared 38 = .ok (.aload_n 0, 1) := by decide +kernel
theorem dX12_compared_39 : decode cX12_compared 39 = .ok (.getfield 246, 3) := by decide +kernel
theorem dX12_compared_42 : decode cX12_compared 42 = .ok (.invokevirtual 295, 3) := by decide +kernel
theorem dX12_compared_45 : decode cX12_compared 45 = .ok (.aload_n 0, 1) := by decide +kernel
theorem dX12_compared_46 : decode cX12_compared 46 = .ok (.dup, 1) := by decide +kernel
theorem dX12_compared_47 : decode cX12_compared 47 = .ok (.getfield 246, 3) := by decide +kernel
theorem dX12_compared_50 : decode cX12_compared 50 = .ok (.iconst 1, 1) := by decide +kernel
theorem dX12_compared_51 : decode cX12_compared 51 = .ok (.iadd, 1) := by decide +kernel
theorem dX12_compared_52 : decode cX12_compared 52 = .ok (.putfield 246, 3) := by decide +kernel
theorem dX12_compared_55 : decode cX12_compared 55 = .ok (.iload_n 1, 1) := by decide +kernel
theorem dX12_compared_56 : decode cX12_compared 56 = .ok (.bipush 61, 2) := by decide +kernel
theorem dX12_compared_58 : decode cX12_compared 58 = .ok (.if_icmp .eq 16, 3) := by decide +kernel
theorem dX12_compared_61 : decode cX12_compared 61 = .ok (.aload_n 0, 1) := by decide +kernel
theorem dX12_compared_62 : decode cX12_compared 62 = .ok (.invokevirtual 249, 3) := by decide +kernel
theorem dX12_compared_65 : decode cX12_compared 65 = .ok (.bipush 61, 2) := by decide +kernel
theorem dX12_compared_67 : decode cX12_compared 67 = .ok (.if_icmp .ne 7, 3) := by decide +kernel
theorem dX12_compared_70 : decode cX12_compared 70 = .ok (.iconst 1, 1) := by decide +kernel
theorem dX12_compared_71 : decode cX12_compared 71 = .ok (.goto 4, 3) := by decide +kernel
theorem dX12_compared_74 : decode cX12_compared 74 = .ok (.iconst 0, 1) := by decide +kernel
theorem dX12_compared_75 : decode cX12_compared 75 = .ok (.istore_n 2, 1) := by decide +kernel
theorem dX12_compared_76 : decode cX12_compared 76 = .ok (.aload_n 0, 1) := by decide +kernel
theorem dX12_compared_77 : decode cX12_compared 77 = .ok (.dup, 1) := by decide +kernel
theorem dX12_compared_78 : decode cX12_compared 78 = .ok (.getfield 246, 3) := by decide +kernel
theorem dX12_compared_81 : decode cX12_compared 81 = .ok (.iload_n 2, 1) := by decide +kernel
theorem dX12_compared_82 : decode cX12_compared 82 = .ok (.ifCond .eq 7, 3) := by decide +kernel
theorem dX12_compared_85 : decode cX12_compared 85 = .ok (.iconst 1, 1) := by decide +kernel
theorem dX12_compared_86 : decode cX12_compared 86 = .ok (.goto 4, 3) := by decide +kernel
theorem dX12_compared_89 : decode cX12_compared 89 = .ok (.iconst 0, 1) := by decide +kernel
theorem dX12_compared_90 : decode cX12_compared 90 = .ok (.iadd, 1) := by decide +kernel
theorem dX12_compared_91 : decode cX12_compared 91 = .ok (.putfield 246, 3) := by decide +kernel
theorem dX12_compared_94 : decode cX12_compared 94 = .ok (.aload_n 0, 1) := by decide +kernel
theorem dX12_compared_95 : decode cX12_compared 95 = .ok (.invokevirtual 311, 3) := by decide +kernel
theorem dX12_compared_98 : decode cX12_compared 98 = .ok (.aload_n 0, 1) := by decide +kernel
theorem dX12_compared_99 : decode cX12_compared 99 = .ok (.iload_n 1, 1) := by decide +kernel
theorem dX12_compared_100 : decode cX12_compared 100 = .ok (.bipush 61, 2) := by decide +kernel
theorem dX12_compared_102 : decode cX12_compared 102 = .ok (.if_icmp .ne 8, 3) := by decide +kernel
theorem dX12_compared_105 : decode cX12_compared 105 = .ok (.bipush 6, 2) := by decide +kernel
theorem dX12_compared_107 : decode cX12_compared 107 = .ok (.goto 32, 3) := by decide +kernel
theorem dX12_compared_110 : decode cX12_compared 110 = .ok (.iload_n 1, 1) := by decide +kernel
theorem dX12_compared_111 : decode cX12_compared 111 = .ok (.bipush 60, 2) := by decide +kernel
theorem dX12_compared_113 : decode cX12_compared 113 = .ok (.if_icmp .ne 15, 3) := by decide +kernel
theorem dX12_compared_116 : decode cX12_compared 116 = .ok (.iload_n 2, 1) := by decide +kernel
theorem dX12_compared_117 : decode cX12_compared 117 = .ok (.ifCond .eq 7, 3) := by decide +kernel
theorem dX12_compared_120 : decode cX12_compared 120 = .ok (.iconst 5, 1) := by decide +kernel
theorem dX12_compared_121 : decode cX12_compared 121 = .ok (.goto 18, 3) := by decide +kernel
theorem dX12_compared_124 : decode cX12_compared 124 = .ok (.iconst 4, 1) := by decide +kernel
theorem dX12_compared_125 : decode cX12_compared 125 = .ok (.goto 14, 3) := by decide +kernel
theorem dX12_compared_128 : decode cX12_compared 128 = .ok (.iload_n 2, 1) := by decide +kernel
theorem dX12_compared_129 : decode cX12_compared 129 = .ok (.ifCond .eq 8, 3) := by decide +kernel
theorem dX12_compared_132 : decode cX12_compared 132 = .ok (.bipush 7, 2) := by decide +kernel
theorem dX12_compared_134 : decode cX12_compared 134 = .ok (.goto 5, 3) := by decide +kernel
theorem dX12_compared_137 : decode cX12_compared 137 = .ok (.bipush 8, 2) := by decide +kernel
theorem dX12_compared_139 : decode cX12_compared 139 = .ok (.iconst 0, 1) := by decide +kernel
theorem dX12_compared_140 : decode cX12_compared 140 = .ok (.invokevirtual 298, 3) := by decide +kernel
theorem dX12_compared_143 : decode cX12_compared 143 = .ok (.return_, 1) := by decide +kernel
def p_X12_compared (G : GG) (w : MS) : Option (MS) :=
ob (p_X12_sum G w) fun w1 =>
cw (p_X12_sign G w1) fun r5 w3 =>
nn (fun (uu_37 : Unit) => (ob (p_X12_isCounted G (w3.1 0 33) w3) fun w6 =>
nn (w_si w6 0 33 ((w6.1 0 33) + (1 : Int32))) fun w8 =>
nn (fun (s0_75 : Int32) (h_75 : MS) => (nn (fun (s0_90 : Int32) => (nn (w_si h_75 0 33 ((h_75.1 0 33) + s0_90)) fun w9 =>
ob (p_X12_sum G w9) fun w10 =>
nn (fun (s0_139 : Int32) => (ob (p_X12_entry G s0_139 (0 : Int32) w10) fun w12 =>
some w12)) fun j_139 =>
if r5 = (61 : Int32) then (j_139 (6 : Int32)) else
if r5 = (60 : Int32) then (if s0_75 = 0 then (j_139 (4 : Int32)) else
j_139 (5 : Int32)) else
if s0_75 = 0 then (j_139 (8 : Int32)) else
j_139 (7 : Int32))) fun j_90 =>
if s0_75 = 0 then (j_90 (0 : Int32)) else
j_90 (1 : Int32))) fun j_75 =>
nn (fun (h_74 : MS) => (j_75 (0 : Int32) h_74)) fun j_74 =>
if r5 = (61 : Int32) then (j_74 w8) else
cw (p_X12_sign G w8) fun r22 w20 =>
if r22 = (61 : Int32) then (j_75 (1 : Int32) w20) else
j_74 w20)) fun j_37 =>
if r5 = (60 : Int32) then (j_37 ()) else
if r5 = (61 : Int32) then (j_37 ()) else
if r5 = (62 : Int32) then (j_37 ()) else
ob (p_X12_fails G (0 : Int32) (w3.1 0 33) w3) fun w27 =>
some w27
set_option maxHeartbeats 4000000 in
set_option maxRecDepth 100000 in
theorem pt_X12_compared {G : GG} {l : Launch} {M : Nat} {h : AH} (hI : MI h M) {w : MS} {y : MS} (hf : p_X12_compared G w = some y) : Ct G l yX12_compared cX12_compared 3 none 8 173 0 0 [.ref M] (mh h M w) (none, mh h M y) := by
  refine ct_of (by decide) (Nat.le_of_ble_eq_true rfl) ?_
  intro p e s m args below meth c C hm hr hin
  have C : Cx G cX12_compared RX12 p s m args meth c := C
  refine e_lv (lv2 := [(0, .ref M)]) [0] rfl ?_
  unfold p_X12_compared at hf
  refine e_aload_n (pc := 0) C dX12_compared_0 0 rfl rfl ?_
  obtain ⟨w1, y2, hf⟩ := ob_e hf
  refine e_callVv (pc := 1) (st := []) 12 C (pt_X12_sum hI y2) dX12_compared_1 (by decide) hI.1 g1791 g1793 g78 g157 g1794 hd_X12_sum rfl ⟨Nat.le_of_ble_eq_true rfl, Nat.le_of_ble_eq_true rfl⟩ ⟨Nat.le_of_ble_eq_true rfl, Nat.le_of_ble_eq_true rfl⟩ rfl (Nat.le_of_ble_eq_true rfl) ?_
  refine e_aload_n (pc := 4) C dX12_compared_4 0 rfl rfl ?_
  obtain ⟨r5, w3, y4, hf⟩ := cw_e hf
  refine e_callVi (pc := 5) (st := []) 12 C (pt_X12_sign hI y4) dX12_compared_5 (by decide) hI.1 g1690 g1692 g60 g157 g1693 hd_X12_sign rfl ⟨Nat.le_of_ble_eq_true rfl, Nat.le_of_ble_eq_true rfl⟩ ⟨Nat.le_of_ble_eq_true rfl, Nat.le_of_ble_eq_true rfl⟩ rfl (Nat.le_of_ble_eq_true rfl) ?_
  refine e_istore_n (pc := 8) (lv2 := [(1, .int r5), (0, .ref M)]) C hm dX12_compared_8 rfl (by decide) rfl ?_
  refine e_iload_n (pc := 9) C dX12_compared_9 0 rfl rfl ?_
  refine e_bipush (v := (60 : Int32)) (pc := 10) C dX12_compared_10 (by decide) ?_
  obtain ⟨j_37, ej_37, hf⟩ := nn_e hf
  have W_37 : ∀ (uu_37 : Unit), j_37 uu_37 = some y → EE G p l e ({ frames := 8, cells := 0, slots := 0, locals := 173 } : Room) s m args below meth c (none, mh h M y) 0 0 37 [(0, .ref M), (1, .int r5)] [] (mh h M w3) 0 0 := by
    intro uu_37 hf
    rw [ej_37] at hf
    refine e_aload_n (pc := 37) C dX12_compared_37 0 rfl rfl ?_
    refine e_aload_n (pc := 38) C dX12_compared_38 0 rfl rfl ?_
    refine q_geti (pc := 39) 33 hI C dX12_compared_39 (by decide) g1434 rfl ?_
    obtain ⟨w6, y7, hf⟩ := ob_e hf
    refine e_callVv (pc := 42) (st := []) 12 C (pt_X12_isCounted hI y7) dX12_compared_42 (by decide) hI.1 g1803 g1805 g81 g157 g1806 hd_X12_isCounted rfl ⟨Nat.le_of_ble_eq_true rfl, Nat.le_of_ble_eq_true rfl⟩ ⟨Nat.le_of_ble_eq_true rfl, Nat.le_of_ble_eq_true rfl⟩ rfl (Nat.le_of_ble_eq_true rfl) ?_
    refine e_aload_n (pc := 45) C dX12_compared_45 0 rfl rfl ?_
    refine e_dup (pc := 46) C dX12_compared_46 rfl ?_
    refine q_geti (pc := 47) 33 hI C dX12_compared_47 (by decide) g1434 rfl ?_
    refine e_iconst (v := (1 : Int32)) (pc := 50) C dX12_compared_50 (by decide) ?_
    refine e_iadd (pc := 51) C dX12_compared_51 ?_
    refine q_puti (pc := 52) 33 hI C dX12_compared_52 (by decide) g1434 rfl rfl rfl rfl ?_
    obtain ⟨w8, ew8, hf⟩ := nn_e hf
    refine q_hp ew8 ?_
    refine e_iload_n (pc := 55) C dX12_compared_55 1 rfl rfl ?_
    refine e_bipush (v := (61 : Int32)) (pc := 56) C dX12_compared_56 (by decide) ?_
    obtain ⟨j_75, ej_75, hf⟩ := nn_e hf
    have W_75 : ∀ (s0_75 : Int32) (h_75 : MS), j_75 s0_75 h_75 = some y → EE G p l e ({ frames := 8, cells := 0, slots := 0, locals := 173 } : Room) s m args below meth c (none, mh h M y) 0 0 75 [(0, .ref M), (1, .int r5)] [.int s0_75] (mh h M h_75) 0 0 := by
      intro s0_75 h_75 hf
      rw [ej_75] at hf
      refine e_istore_n (pc := 75) (lv2 := [(2, .int s0_75), (0, .ref M), (1, .int r5)]) C hm dX12_compared_75 rfl (by decide) rfl ?_
      refine e_aload_n (pc := 76) C dX12_compared_76 1 rfl rfl ?_
      refine e_dup (pc := 77) C dX12_compared_77 rfl ?_
      refine q_geti (pc := 78) 33 hI C dX12_compared_78 (by decide) g1434 rfl ?_
      refine e_iload_n (pc := 81) C dX12_compared_81 0 rfl rfl ?_
      obtain ⟨j_90, ej_90, hf⟩ := nn_e hf
      have W_90 : ∀ (s0_90 : Int32), j_90 s0_90 = some y → EE G p l e ({ frames := 8, cells := 0, slots := 0, locals := 173 } : Room) s m args below meth c (none, mh h M y) 0 0 90 [(0, .ref M), (1, .int r5), (2, .int s0_75)] [.int s0_90, .int (h_75.1 0 33), .ref M] (mh h M h_75) 0 0 := by
        intro s0_90 hf
        rw [ej_90] at hf
        refine e_iadd (pc := 90) C dX12_compared_90 ?_
        refine q_puti (pc := 91) 33 hI C dX12_compared_91 (by decide) g1434 rfl rfl rfl rfl ?_
        obtain ⟨w9, ew9, hf⟩ := nn_e hf
        refine q_hp ew9 ?_
        refine e_aload_n (pc := 94) C dX12_compared_94 0 rfl rfl ?_
        obtain ⟨w10, y11, hf⟩ := ob_e hf
        refine e_callVv (pc := 95) (st := []) 12 C (pt_X12_sum hI y11) dX12_compared_95 (by decide) hI.1 g1791 g1793 g78 g157 g1794 hd_X12_sum rfl ⟨Nat.le_of_ble_eq_true rfl, Nat.le_of_ble_eq_true rfl⟩ ⟨Nat.le_of_ble_eq_true rfl, Nat.le_of_ble_eq_true rfl⟩ rfl (Nat.le_of_ble_eq_true rfl) ?_
        refine e_aload_n (pc := 98) C dX12_compared_98 0 rfl rfl ?_
        refine e_iload_n (pc := 99) C dX12_compared_99 1 rfl rfl ?_
        refine e_bipush (v := (61 : Int32)) (pc := 100) C dX12_compared_100 (by decide) ?_
        obtain ⟨j_139, ej_139, hf⟩ := nn_e hf
        have W_139 : ∀ (s0_139 : Int32), j_139 s0_139 = some y → EE G p l e ({ frames := 8, cells := 0, slots := 0, locals := 173 } : Room) s m args below meth c (none, mh h M y) 0 0 139 [] [.int s0_139, .ref M] (mh h M w10) 0 0 := by
          intro s0_139 hf
          rw [ej_139] at hf
          refine e_iconst (v := (0 : Int32)) (pc := 139) C dX12_compared_139 (by decide) ?_
          obtain ⟨w12, y13, hf⟩ := ob_e hf
          refine e_callVv (pc := 140) (st := []) 12 C (pt_X12_entry hI y13) dX12_compared_140 (by decide) hI.1 g1807 g1809 g82 g157 g1810 hd_X12_entry rfl ⟨Nat.le_of_ble_eq_true rfl, Nat.le_of_ble_eq_true rfl⟩ ⟨Nat.le_of_ble_eq_true rfl, Nat.le_of_ble_eq_true rfl⟩ rfl (Nat.le_of_ble_eq_true rfl) ?_
          obtain rfl := so_e hf
          exact e_vret (pc := 143) C hr dX12_compared_143 (Nat.le_of_ble_eq_true rfl) (Nat.le_of_ble_eq_true rfl)
        rcases it_e hf with ⟨c14, hf⟩ | ⟨c14, hf⟩
        · refine e_icmp_ne (pc := 102) (tgt := 110) C dX12_compared_102 (by decide) (fun q => absurd c14 q) (fun _ => ?_)
          refine e_bipush (v := (6 : Int32)) (pc := 105) C dX12_compared_105 (by decide) ?_
          refine e_goto (pc := 107) (tgt := 139) C dX12_compared_107 (by decide) ?_
          refine e_lv (lv2 := []) [] rfl ?_
          exact W_139 (6 : Int32) hf
        · refine e_icmp_ne (pc := 102) (tgt := 110) C dX12_compared_102 (by decide) (fun _ => ?_) (fun q => absurd q c14)
          refine e_iload_n (pc := 110) C dX12_compared_110 1 rfl rfl ?_
          refine e_bipush (v := (60 : Int32)) (pc := 111) C dX12_compared_111 (by decide) ?_
          rcases it_e hf with ⟨c15, hf⟩ | ⟨c15, hf⟩
          · refine e_icmp_ne (pc := 113) (tgt := 128) C dX12_compared_113 (by decide) (fun q => absurd c15 q) (fun _ => ?_)
            refine e_iload_n (pc := 116) C dX12_compared_116 2 rfl rfl ?_
            rcases it_e hf with ⟨c16, hf⟩ | ⟨c16, hf⟩
            · refine e_if_eq (pc := 117) (tgt := 124) C dX12_compared_117 (by decide) (fun _ => ?_) (fun q => absurd c16 q)
              refine e_iconst (v := (4 : Int32)) (pc := 124) C dX12_compared_124 (by decide) ?_
              refine e_goto (pc := 125) (tgt := 139) C dX12_compared_125 (by decide) ?_
              refine e_lv (lv2 := []) [] rfl ?_
              exact W_139 (4 : Int32) hf
            · refine e_if_eq (pc := 117) (tgt := 124) C dX12_compared_117 (by decide) (fun q => absurd q c16) (fun _ => ?_)
              refine e_iconst (v := (5 : Int32)) (pc := 120) C dX12_compared_120 (by decide) ?_
              refine e_goto (pc := 121) (tgt := 139) C dX12_compared_121 (by decide) ?_
              refine e_lv (lv2 := []) [] rfl ?_
              exact W_139 (5 : Int32) hf
          · refine e_icmp_ne (pc := 113) (tgt := 128) C dX12_compared_113 (by decide) (fun _ => ?_) (fun q => absurd q c15)
            refine e_iload_n (pc := 128) C dX12_compared_128 2 rfl rfl ?_
            rcases it_e hf with ⟨c17, hf⟩ | ⟨c17, hf⟩
            · refine e_if_eq (pc := 129) (tgt := 137) C dX12_compared_129 (by decide) (fun _ => ?_) (fun q => absurd c17 q)
              refine e_bipush (v := (8 : Int32)) (pc := 137) C dX12_compared_137 (by decide) ?_
              refine e_lv (lv2 := []) [] rfl ?_
              exact W_139 (8 : Int32) hf
            · refine e_if_eq (pc := 129) (tgt := 137) C dX12_compared_129 (by decide) (fun q => absurd q c17) (fun _ => ?_)
              refine e_bipush (v := (7 : Int32)) (pc := 132) C dX12_compared_132 (by decide) ?_
              refine e_goto (pc := 134) (tgt := 139) C dX12_compared_134 (by decide) ?_
              refine e_lv (lv2 := []) [] rfl ?_
              exact W_139 (7 : Int32) hf
      rcases it_e hf with ⟨c18, hf⟩ | ⟨c18, hf⟩
      · refine e_if_eq (pc := 82) (tgt := 89) C dX12_compared_82 (by decide) (fun _ => ?_) (fun q => absurd c18 q)
        refine e_iconst (v := (0 : Int32)) (pc := 89) C dX12_compared_89 (by decide) ?_
        refine e_lv (lv2 := [(0, .ref M), (1, .int r5), (2, .int s0_75)]) [1, 2, 0] rfl ?_
        exact W_90 (0 : Int32) hf
      · refine e_if_eq (pc := 82) (tgt := 89) C dX12_compared_82 (by decide) (fun q => absurd q c18) (fun _ => ?_)
        refine e_iconst (v := (1 : Int32)) (pc := 85) C dX12_compared_85 (by decide) ?_
        refine e_goto (pc := 86) (tgt := 90) C dX12_compared_86 (by decide) ?_
        refine e_lv (lv2 := [(0, .ref M), (1, .int r5), (2, .int s0_75)]) [1, 2, 0] rfl ?_
        exact W_90 (1 : Int32) hf
    obtain ⟨j_74, ej_74, hf⟩ := nn_e hf
    have W_74 : ∀ (h_74 : MS), j_74 h_74 = some y → EE G p l e ({ frames := 8, cells := 0, slots := 0, locals := 173 } : Room) s m args below meth c (none, mh h M y) 0 0 74 [(0, .ref M), (1, .int r5)] [] (mh h M h_74) 0 0 := by
      intro h_74 hf
      rw [ej_74] at hf
      refine e_iconst (v := (0 : Int32)) (pc := 74) C dX12_compared_74 (by decide) ?_
      exact W_75 (0 : Int32) h_74 hf
    rcases it_e hf with ⟨c19, hf⟩ | ⟨c19, hf⟩
    · refine e_icmp_eq (pc := 58) (tgt := 74) C dX12_compared_58 (by decide) (fun _ => ?_) (fun q => absurd c19 q)
      exact W_74 w8 hf
    · refine e_icmp_eq (pc := 58) (tgt := 74) C dX12_compared_58 (by decide) (fun q => absurd q c19) (fun _ => ?_)
      refine e_aload_n (pc := 61) C dX12_compared_61 0 rfl rfl ?_
      obtain ⟨r22, w20, y21, hf⟩ := cw_e hf
      refine e_callVi (pc := 62) (st := []) 12 C (pt_X12_sign hI y21) dX12_compared_62 (by decide) hI.1 g1690 g1692 g60 g157 g1693 hd_X12_sign rfl ⟨Nat.le_of_ble_eq_true rfl, Nat.le_of_ble_eq_true rfl⟩ ⟨Nat.le_of_ble_eq_true rfl, Nat.le_of_ble_eq_true rfl⟩ rfl (Nat.le_of_ble_eq_true rfl) ?_
      refine e_bipush (v := (61 : Int32)) (pc := 65) C dX12_compared_65 (by decide) ?_
      rcases it_e hf with ⟨c23, hf⟩ | ⟨c23, hf⟩
      · refine e_icmp_ne (pc := 67) (tgt := 74) C dX12_compared_67 (by decide) (fun q => absurd c23 q) (fun _ => ?_)
        refine e_iconst (v := (1 : Int32)) (pc := 70) C dX12_compared_70 (by decide) ?_
        refine e_goto (pc := 71) (tgt := 75) C dX12_compared_71 (by decide) ?_
        exact W_75 (1 : Int32) w20 hf
      · refine e_icmp_ne (pc := 67) (tgt := 74) C dX12_compared_67 (by decide) (fun _ => ?_) (fun q => absurd q c23)
        exact W_74 w20 hf
  rcases it_e hf with ⟨c24, hf⟩ | ⟨c24, hf⟩
  · refine e_icmp_eq (pc := 12) (tgt := 37) C dX12_compared_12 (by decide) (fun _ => ?_) (fun q => absurd c24 q)
    refine e_lv (lv2 := [(0, .ref M), (1, .int r5)]) [1, 0] rfl ?_
    exact W_37 () hf
  · refine e_icmp_eq (pc := 12) (tgt := 37) C dX12_compared_12 (by decide) (fun q => absurd q c24) (fun _ => ?_)
    refine e_iload_n (pc := 15) C dX12_compared_15 0 rfl rfl ?_
    refine e_bipush (v := (61 : Int32)) (pc := 16) C dX12_compared_16 (by decide) ?_
    rcases it_e hf with ⟨c25, hf⟩ | ⟨c25, hf⟩
    · refine e_icmp_eq (pc := 18) (tgt := 37) C dX12_compared_18 (by decide) (fun _ => ?_) (fun q => absurd c25 q)
      refine e_lv (lv2 := [(0, .ref M), (1, .int r5)]) [1, 0] rfl ?_
      exact W_37 () hf
    · refine e_icmp_eq (pc := 18) (tgt := 37) C dX12_compared_18 (by decide) (fun q => absurd q c25) (fun _ => ?_)
      refine e_iload_n (pc := 21) C dX12_compared_21 0 rfl rfl ?_
      refine e_bipush (v := (62 : Int32)) (pc := 22) C dX12_compared_22 (by decide) ?_
      rcases it_e hf with ⟨c26, hf⟩ | ⟨c26, hf⟩
      · refine e_icmp_eq (pc := 24) (tgt := 37) C dX12_compared_24 (by decide) (fun _ => ?_) (fun q => absurd c26 q)
        refine e_lv (lv2 := [(0, .ref M), (1, .int r5)]) [1, 0] rfl ?_
        exact W_37 () hf
      · refine e_icmp_eq (pc := 24) (tgt := 37) C dX12_compared_24 (by decide) (fun q => absurd q c26) (fun _ => ?_)
        refine e_aload_n (pc := 27) C dX12_compared_27 1 rfl rfl ?_
        refine e_iconst (v := (0 : Int32)) (pc := 28) C dX12_compared_28 (by decide) ?_
        refine e_aload_n (pc := 29) C dX12_compared_29 1 rfl rfl ?_
        refine q_geti (pc := 30) 33 hI C dX12_compared_30 (by decide) g1434 rfl ?_
        obtain ⟨w27, y28, hf⟩ := ob_e hf
        refine e_callVv (pc := 33) (st := []) 12 C (pt_X12_fails hI y28) dX12_compared_33 (by decide) hI.1 g1710 g1712 g62 g157 g1713 hd_X12_fails rfl ⟨Nat.le_of_ble_eq_true rfl, Nat.le_of_ble_eq_true rfl⟩ ⟨Nat.le_of_ble_eq_true rfl, Nat.le_of_ble_eq_true rfl⟩ rfl (Nat.le_of_ble_eq_true rfl) ?_
        obtain rfl := so_e hf
        exact e_vret (pc := 36) C hr dX12_compared_36 (Nat.le_of_ble_eq_true rfl) (Nat.le_of_ble_eq_true rfl)
theorem dX12_top_0 : decode cX12_top 0 = .ok (.aload_n 0, 1) := by decide +kernel
theorem dX12_top_1 : decode cX12_top 1 = .ok (.getfield 314, 3) := by decide +kernel
theorem dX12_top_4 : decode cX12_top 4 = .ok (.ifCond .ne 7, 3) := by decide +kernel
theorem dX12_top_7 : decode cX12_top 7 = .ok (.iconst (-1), 1) := by decide +kernel
theorem dX12_top_8 : decode cX12_top 8 = .ok (.goto 14, 3) := by decide +kernel
theorem dX12_top_11 : decode cX12_top 11 = .ok (.aload_n 0, 1) := by decide +kernel
theorem dX12_top_12 : decode cX12_top 12 = .ok (.getfield 129, 3) := by decide +kernel
theorem dX12_top_15 : decode cX12_top 15 = .ok (.aload_n 0, 1) := by decide +kernel
theorem dX12_top_16 : decode cX12_top 16 = .ok (.getfield 314, 3) := by decide +kernel
theorem dX12_top_19 : decode cX12_top 19 = .ok (.iconst 1, 1) := by decide +kernel
theorem dX12_top_20 : decode cX12_top 20 = .ok (.isub, 1) := by decide +kernel
theorem dX12_top_21 : decode cX12_top 21 = .ok (.iaload, 1) := by decide +kernel
theorem dX12_top_22 : decode cX12_top 22 = .ok (.ireturn, 1) := by decide +kernel
def p_X12_top (G : GG) (w : MS) : Option (Int32 × MS) :=
if (w.1 0 40) = 0 then (some ((-1 : Int32), w)) else
ck (ixn 402 ((w.1 0 40) - (1 : Int32)) = true) <|
some (w.1 49 ((w.1 0 40) - (1 : Int32)).toNatClampNeg, w)
set_option maxHeartbeats 4000000 in
set_option maxRecDepth 100000 in
theorem pt_X12_top {G : GG} {l : Launch} {M : Nat} {h : AH} (hI : MI h M) {w : MS} {y : Int32 × MS} (hf : p_X12_top G w = some y) : Ct G l yX12_top cX12_top 1 (some .int) 0 0 0 0 [.ref M] (mh h M w) (some (.int y.1), mh h M y.2) := by
  refine ct_of (by decide) (Nat.le_of_ble_eq_true rfl) ?_
  intro p e s m args below meth c C hm hr hin
  have C : Cx G cX12_top RX12 p s m args meth c := C
  refine e_lv (lv2 := [(0, .ref M)]) [0] rfl ?_
  unfold p_X12_top at hf
  refine e_aload_n (pc := 0) C dX12_top_0 0 rfl rfl ?_
  refine q_geti (pc := 1) 40 hI C dX12_top_1 (by decide) g1441 rfl ?_
  rcases it_e hf with ⟨c1, hf⟩ | ⟨c1, hf⟩
  · refine e_if_ne (pc := 4) (tgt := 11) C dX12_top_4 (by decide) (fun q => absurd c1 q) (fun _ => ?_)
    refine e_iconst (v := (-1 : Int32)) (pc := 7) C dX12_top_7 (by decide) ?_
    refine e_goto (pc := 8) (tgt := 22) C dX12_top_8 (by decide) ?_
    obtain rfl := so_e hf
    exact e_iret (pc := 22) C hr dX12_top_22 (Nat.le_of_ble_eq_true rfl) (Nat.le_of_ble_eq_true rfl)
  · refine e_if_ne (pc := 4) (tgt := 11) C dX12_top_4 (by decide) (fun _ => ?_) (fun q => absurd q c1)
    refine e_aload_n (pc := 11) C dX12_top_11 0 rfl rfl ?_
    refine q_getr (pc := 12) 49 hI C dX12_top_12 (by decide) g1450 rfl rfl ?_
    refine e_aload_n (pc := 15) C dX12_top_15 0 rfl rfl ?_
    refine q_geti (pc := 16) 40 hI C dX12_top_16 (by decide) g1441 rfl ?_
    refine e_iconst (v := (1 : Int32)) (pc := 19) C dX12_top_19 (by decide) ?_
    refine e_isub (pc := 20) C dX12_top_20 ?_
    obtain ⟨q2, hf⟩ := ck_e hf
    refine q_iald (pc := 21) (k := 49) hI C dX12_top_21 rfl (ixn_e q2) ?_
    obtain rfl := so_e hf
    exact e_iret (pc := 22) C hr dX12_top_22 (Nat.le_of_ble_eq_true rfl) (Nat.le_of_ble_eq_true rfl)
theorem dX12_opens_0 : decode cX12_opens 0 = .ok (.iload_n 1, 1) := by decide +kernel
theorem dX12_opens_1 : decode cX12_opens 1 = .ok (.bipush 9, 2) := by decide +kernel
theorem dX12_opens_3 : decode cX12_opens 3 = .ok (.if_icmp .eq 9, 3) := by decide +kernel
theorem dX12_opens_6 : decode cX12_opens 6 = .ok (.iload_n 1, 1) := by decide +kernel
theorem dX12_opens_7 : decode cX12_opens 7 = .ok (.bipush 12, 2) := by decide +kernel
theorem dX12_opens_9 : decode cX12_opens 9 = .ok (.if_icmp .ne 31, 3) := by decide +kernel
theorem dX12_opens_12 : decode cX12_opens 12 = .ok (.aload_n 0, 1) := by decide +kernel
theorem dX12_opens_13 : decode cX12_opens 13 = .ok (.getfield 317, 3) := by decide +kernel
theorem dX12_opens_16 : decode cX12_opens 16 = .ok (.bipush 10, 2) := by decide +kernel
theorem dX12_opens_18 : decode cX12_opens 18 = .ok (.if_icmp .ne 12, 3) := by decide +kernel
theorem dX12_opens_21 : decode cX12_opens 21 = .ok (.aload_n 0, 1) := by decide +kernel
theorem dX12_opens_22 : decode cX12_opens 22 = .ok (.iconst 2, 1) := by decide +kernel
theorem dX12_opens_23 : decode cX12_opens 23 = .ok (.aload_n 0, 1) := by decide +kernel
theorem dX12_opens_24 : decode cX12_opens 24 = .ok (.getfield 246, 3) := by decide +kernel
theorem dX12_opens_27 : decode cX12_opens 27 = .ok (.invokevirtual 282, 3) := by decide +kernel
theorem dX12_opens_30 : decode cX12_opens 30 = .ok (.aload_n 0, 1) := by decide +kernel
theorem dX12_opens_31 : decode cX12_opens 31 = .ok (.dup, 1) := by decide +kernel
theorem dX12_opens_32 : decode cX12_opens 32 = .ok (.getfield 317, 3) := by decide +kernel
theorem dX12_opens_35 : decode cX12_opens 35 = .ok (.iconst 1, 1) := by decide +kernel
theorem dX12_opens_36 : decode cX12_opens 36 = .ok (.iadd, 1) := by decide +kernel
theorem dX12_opens_37 : decode cX12_opens 37 = .ok (.putfield 317, 3) := by decide +kernel
theorem dX12_opens_40 : decode cX12_opens 40 = .ok (.aload_n 0, 1) := by decide +kernel
theorem dX12_opens_41 : decode cX12_opens 41 = .ok (.getfield 129, 3) := by decide +kernel
theorem dX12_opens_44 : decode cX12_opens 44 = .ok (.aload_n 0, 1) := by decide +kernel
theorem dX12_opens_45 : decode cX12_opens 45 = .ok (.getfield 314, 3) := by decide +kernel
theorem dX12_opens_48 : decode cX12_opens 48 = .ok (.iload_n 1, 1) := by decide +kernel
theorem dX12_opens_49 : decode cX12_opens 49 = .ok (.iastore, 1) := by decide +kernel
theorem dX12_opens_50 : decode cX12_opens 50 = .ok (.aload_n 0, 1) := by decide +kernel
theorem dX12_opens_51 : decode cX12_opens 51 = .ok (.dup, 1) := by decide +kernel
theorem dX12_opens_52 : decode cX12_opens 52 = .ok (.getfield 314, 3) := by decide +kernel
theorem dX12_opens_55 : decode cX12_opens 55 = .ok (.iconst 1, 1) := by decide +kernel
theorem dX12_opens_56 : decode cX12_opens 56 = .ok (.iadd, 1) := by decide +kernel
theorem dX12_opens_57 : decode cX12_opens 57 = .ok (.putfield 314, 3) := by decide +kernel
theorem dX12_opens_60 : decode cX12_opens 60 = .ok (.return_, 1) := by decide +kernel
def p_X12_opens (G : GG) (v1 : Int32) (w : MS) : Option (MS) :=
nn (fun (h_40 : MS) => (ck (ixn 402 (h_40.1 0 40) = true) <|
nn (w_si h_40 49 (h_40.1 0 40).toNatClampNeg v1) fun w2 =>
nn (w_si w2 0 40 ((w2.1 0 40) + (1 : Int32))) fun w3 =>
some w3)) fun j_40 =>
nn (fun (uu_12 : Unit) => (nn (fun (h_30 : MS) => (nn (w_si h_30 0 38 ((h_30.1 0 38) + (1 : Int32))) fun w4 =>
j_40 w4)) fun j_30 =>
if (w.1 0 38) = (10 : Int32) then (ob (p_X12_fails G (2 : Int32) (w.1 0 33) w) fun w6 =>
j_30 w6) else
j_30 w)) fun j_12 =>
if v1 = (9 : Int32) then (j_12 ()) else
if v1 = (12 : Int32) then (j_12 ()) else
j_40 w
set_option maxHeartbeats 4000000 in
set_option maxRecDepth 100000 in
theorem pt_X12_opens {G : GG} {l : Launch} {M : Nat} {h : AH} (hI : MI h M) {v1 : Int32} {w : MS} {y : MS} (hf : p_X12_opens G v1 w = some y) : Ct G l yX12_opens cX12_opens 2 none 1 22 0 0 [.ref M, .int v1] (mh h M w) (none, mh h M y) := by
  refine ct_of (by decide) (Nat.le_of_ble_eq_true rfl) ?_
  intro p e s m args below meth c C hm hr hin
  have C : Cx G cX12_opens RX12 p s m args meth c := C
  refine e_lv (lv2 := [(0, .ref M), (1, .int v1)]) [0, 1] rfl ?_
  unfold p_X12_opens at hf
  refine e_iload_n (pc := 0) C dX12_opens_0 1 rfl rfl ?_
  refine e_bipush (v := (9 : Int32)) (pc := 1) C dX12_opens_1 (by decide) ?_
  obtain ⟨j_40, ej_40, hf⟩ := nn_e hf
  have W_40 : ∀ (h_40 : MS), j_40 h_40 = some y → EE G p l e ({ frames := 1, cells := 0, slots := 0, locals := 22 } : Room) s m args below meth c (none, mh h M y) 0 0 40 [(0, .ref M), (1, .int v1)] [] (mh h M h_40) 0 0 := by
    intro h_40 hf
    rw [ej_40] at hf
    refine e_aload_n (pc := 40) C dX12_opens_40 0 rfl rfl ?_
    refine q_getr (pc := 41) 49 hI C dX12_opens_41 (by decide) g1450 rfl rfl ?_
    refine e_aload_n (pc := 44) C dX12_opens_44 0 rfl rfl ?_
    refine q_geti (pc := 45) 40 hI C dX12_opens_45 (by decide) g1441 rfl ?_
    refine e_iload_n (pc := 48) C dX12_opens_48 1 rfl rfl ?_
    obtain ⟨q1, hf⟩ := ck_e hf
    refine q_iast (pc := 49) (k := 49) hI C dX12_opens_49 rfl (ixn_e q1) ?_
    obtain ⟨w2, ew2, hf⟩ := nn_e hf
    refine q_hp ew2 ?_
    refine e_aload_n (pc := 50) C dX12_opens_50 0 rfl rfl ?_
    refine e_dup (pc := 51) C dX12_opens_51 rfl ?_
    refine q_geti (pc := 52) 40 hI C dX12_opens_52 (by decide) g1441 rfl ?_
    refine e_iconst (v := (1 : Int32)) (pc := 55) C dX12_opens_55 (by decide) ?_
    refine e_iadd (pc := 56) C dX12_opens_56 ?_
    refine q_puti (pc := 57) 40 hI C dX12_opens_57 (by decide) g1441 rfl rfl rfl rfl ?_
    obtain ⟨w3, ew3, hf⟩ := nn_e hf
    refine q_hp ew3 ?_
    obtain rfl := so_e hf
    exact e_vret (pc := 60) C hr dX12_opens_60 (Nat.le_of_ble_eq_true rfl) (Nat.le_of_ble_eq_true rfl)
  obtain ⟨j_12, ej_12, hf⟩ := nn_e hf
  have W_12 : ∀ (uu_12 : Unit), j_12 uu_12 = some y → EE G p l e ({ frames := 1, cells := 0, slots := 0, locals := 22 } : Room) s m args below meth c (none, mh h M y) 0 0 12 [(0, .ref M), (1, .int v1)] [] (mh h M w) 0 0 := by
    intro uu_12 hf
    rw [ej_12] at hf
    refine e_aload_n (pc := 12) C dX12_opens_12 0 rfl rfl ?_
    refine q_geti (pc := 13) 38 hI C dX12_opens_13 (by decide) g1439 rfl ?_
    refine e_bipush (v := (10 : Int32)) (pc := 16) C dX12_opens_16 (by decide) ?_
    obtain ⟨j_30, ej_30, hf⟩ := nn_e hf
    have W_30 : ∀ (h_30 : MS), j_30 h_30 = some y → EE G p l e ({ frames := 1, cells := 0, slots := 0, locals := 22 } : Room) s m args below meth c (none, mh h M y) 0 0 30 [(0, .ref M), (1, .int v1)] [] (mh h M h_30) 0 0 := by
      intro h_30 hf
      rw [ej_30] at hf
      refine e_aload_n (pc := 30) C dX12_opens_30 0 rfl rfl ?_
      refine e_dup (pc := 31) C dX12_opens_31 rfl ?_
      refine q_geti (pc := 32) 38 hI C dX12_opens_32 (by decide) g1439 rfl ?_
      refine e_iconst (v := (1 : Int32)) (pc := 35) C dX12_opens_35 (by decide) ?_
      refine e_iadd (pc := 36) C dX12_opens_36 ?_
      refine q_puti (pc := 37) 38 hI C dX12_opens_37 (by decide) g1439 rfl rfl rfl rfl ?_
      obtain ⟨w4, ew4, hf⟩ := nn_e hf
      refine q_hp ew4 ?_
      exact W_40 w4 hf
    rcases it_e hf with ⟨c5, hf⟩ | ⟨c5, hf⟩
    · refine e_icmp_ne (pc := 18) (tgt := 30) C dX12_opens_18 (by decide) (fun q => absurd c5 q) (fun _ => ?_)
      refine e_aload_n (pc := 21) C dX12_opens_21 0 rfl rfl ?_
      refine e_iconst (v := (2 : Int32)) (pc := 22) C dX12_opens_22 (by decide) ?_
      refine e_aload_n (pc := 23) C dX12_opens_23 0 rfl rfl ?_
      refine q_geti (pc := 24) 33 hI C dX12_opens_24 (by decide) g1434 rfl ?_
      obtain ⟨w6, y7, hf⟩ := ob_e hf
      refine e_callVv (pc := 27) (st := []) 12 C (pt_X12_fails hI y7) dX12_opens_27 (by decide) hI.1 g1710 g1712 g62 g157 g1713 hd_X12_fails rfl ⟨Nat.le_of_ble_eq_true rfl, Nat.le_of_ble_eq_true rfl⟩ ⟨Nat.le_of_ble_eq_true rfl, Nat.le_of_ble_eq_true rfl⟩ rfl (Nat.le_of_ble_eq_true rfl) ?_
      exact W_30 w6 hf
    · refine e_icmp_ne (pc := 18) (tgt := 30) C dX12_opens_18 (by decide) (fun _ => ?_) (fun q => absurd q c5)
      exact W_30 w hf
  rcases it_e hf with ⟨c8, hf⟩ | ⟨c8, hf⟩
  · refine e_icmp_eq (pc := 3) (tgt := 12) C dX12_opens_3 (by decide) (fun _ => ?_) (fun q => absurd c8 q)
    exact W_12 () hf
  · refine e_icmp_eq (pc := 3) (tgt := 12) C dX12_opens_3 (by decide) (fun q => absurd q c8) (fun _ => ?_)
    refine e_iload_n (pc := 6) C dX12_opens_6 1 rfl rfl ?_
    refine e_bipush (v := (12 : Int32)) (pc := 7) C dX12_opens_7 (by decide) ?_
    rcases it_e hf with ⟨c9, hf⟩ | ⟨c9, hf⟩
    · refine e_icmp_ne (pc := 9) (tgt := 40) C dX12_opens_9 (by decide) (fun q => absurd c9 q) (fun _ => ?_)
      exact W_12 () hf
    · refine e_icmp_ne (pc := 9) (tgt := 40) C dX12_opens_9 (by decide) (fun _ => ?_) (fun q => absurd q c9)
      exact W_40 w hf
theorem dX12_answers_0 : decode cX12_answers 0 = .ok (.aload_n 0, 1) := by decide +kernel
theorem dX12_answers_1 : decode cX12_answers 1 = .ok (.invokevirtual 320, 3) := by decide +kernel
theorem dX12_answers_4 : decode cX12_answers 4 = .ok (.iload_n 1, 1) := by decide +kernel
theorem dX12_answers_5 : decode cX12_answers 5 = .ok (.if_icmp .ne 49, 3) := by decide +kernel
theorem dX12_answers_8 : decode cX12_answers 8 = .ok (.aload_n 0, 1) := by decide +kernel
theorem dX12_answers_9 : decode cX12_answers 9 = .ok (.getfield 243, 3) := by decide +kernel
theorem dX12_answers_12 : decode cX12_answers 12 = .ok (.ifCond .ne 42, 3) := by decide +kernel
theorem dX12_answers_15 : decode cX12_answers 15 = .ok (.aload_n 0, 1) := by decide +kernel
theorem dX12_answers_16 : decode cX12_answers 16 = .ok (.iload_n 1, 1) := by decide +kernel
theorem dX12_answers_17 : decode cX12_answers 17 = .ok (.iconst 0, 1) := by decide +kernel
theorem dX12_answers_18 : decode cX12_answers 18 = .ok (.invokevirtual 298, 3) := by decide +kernel
theorem dX12_answers_21 : decode cX12_answers 21 = .ok (.aload_n 0, 1) := by decide +kernel
theorem dX12_answers_22 : decode cX12_answers 22 = .ok (.dup, 1) := by decide +kernel
theorem dX12_answers_23 : decode cX12_answers 23 = .ok (.getfield 314, 3) := by decide +kernel
theorem dX12_answers_26 : decode cX12_answers 26 = .ok (.iconst 1, 1) := by decide +kernel
theorem dX12_answers_27 : decode cX12_answers 27 = .ok (.isub, 1) := by decide +kernel
theorem dX12_answers_28 : decode cX12_answers 28 = .ok (.putfield 314, 3) := by decide +kernel
theorem dX12_answers_31 : decode cX12_answers 31 = .ok (.aload_n 0, 1) := by decide +kernel
theorem dX12_answers_32 : decode cX12_answers 32 = .ok (.dup, 1) := by decide +kernel
theorem dX12_answers_33 : decode cX12_answers 33 = .ok (.getfield 317, 3) := by decide +kernel
theorem dX12_answers_36 : decode cX12_answers 36 = .ok (.iload_n 1, 1) := by decide +kernel
theorem dX12_answers_37 : decode cX12_answers 37 = .ok (.bipush 9, 2) := by decide +kernel
theorem dX12_answers_39 : decode cX12_answers 39 = .ok (.if_icmp .ne 7, 3) := by decide +kernel
theorem dX12_answers_42 : decode cX12_answers 42 = .ok (.iconst 1, 1) := by decide +kernel
theorem dX12_answers_43 : decode cX12_answers 43 = .ok (.goto 4, 3) := by decide +kernel
theorem dX12_answers_46 : decode cX12_answers 46 = .ok (.iconst 0, 1) := by decide +kernel
theorem dX12_answers_47 : decode cX12_answers 47 = .ok (.isub, 1) := by decide +kernel
theorem dX12_answers_48 : decode cX12_answers 48 = .ok (.putfield 317, 3) := by decide +kernel
theorem dX12_answers_51 : decode cX12_answers 51 = .ok (.goto (-51), 3) := by decide +kernel
theorem dX12_answers_54 : decode cX12_answers 54 = .ok (.return_, 1) := by decide +kernel
def P_X12_answers_0 (G : GG) (v1 : Int32) (self_0 : MS → Option (MS)) (w : MS) : Option (MS) :=
cw (p_X12_top G w) fun r3 w1 =>
if r3 = v1 then (if (w1.1 0 34) = 0 then (ob (p_X12_entry G v1 (0 : Int32) w1) fun w6 =>
nn (w_si w6 0 40 ((w6.1 0 40) - (1 : Int32))) fun w8 =>
nn (fun (s0_47 : Int32) => (nn (w_si w8 0 38 ((w8.1 0 38) - s0_47)) fun w9 =>
self_0 w9)) fun j_47 =>
if v1 = (9 : Int32) then (j_47 (1 : Int32)) else
j_47 (0 : Int32)) else
some w1) else
some w1
def p_X12_answers (G : GG) (v1 : Int32) (w : MS) : Option (MS) :=
lw0 (P_X12_answers_0 G v1 ) bN w
set_option maxHeartbeats 4000000 in
set_option maxRecDepth 100000 in
theorem ep_X12_answers_0 {G : GG} {p : Program} {l : Launch} {e : Env} {s : State} {m : MethodId} {args : Array Value} {below : List Frame} {meth : Method} {c : Code} {y : MS} {M : Nat} {h : AH} (hI : MI h M) (C : Cx G cX12_answers RX12 p s m args meth c) (hm : c.maxLocals = 2) (hr : meth.sig.returnType = none) (hin : meth.name = yX12_answers.name) {v1 : Int32}  :
    ∀ (n : Nat) (w : MS), lw0 (P_X12_answers_0 G v1) n w = some y → EE G p l e ({ frames := 1, cells := 0, slots := 0, locals := 22 } : Room) s m args below meth c (none, mh h M y) 0 0 0 [(0, .ref M), (1, .int v1)] [] (mh h M w) 0 0 := by
  intro n
  induction n with
  | zero => intro w hf; exact (no_e hf).elim
  | succ n ih_0 =>
    intro w hf
    have hf : P_X12_answers_0 G v1 (lw0 (P_X12_answers_0 G v1) n) w = some y := hf
    generalize lw0 (P_X12_answers_0 G v1) n = self_0 at hf ih_0
    unfold P_X12_answers_0 at hf
    refine e_aload_n (pc := 0) C dX12_answers_0 0 rfl rfl ?_
    obtain ⟨r3, w1, y2, hf⟩ := cw_e hf
    refine e_callVi (pc := 1) (st := []) 12 C (pt_X12_top hI y2) dX12_answers_1 (by decide) hI.1 g1851 g1853 g89 g157 g1854 hd_X12_top rfl ⟨Nat.le_of_ble_eq_true rfl, Nat.le_of_ble_eq_true rfl⟩ ⟨Nat.le_of_ble_eq_true rfl, Nat.le_of_ble_eq_true rfl⟩ rfl (Nat.le_of_ble_eq_true rfl) ?_
    refine e_iload_n (pc := 4) C dX12_answers_4 1 rfl rfl ?_
    rcases it_e hf with ⟨c4, hf⟩ | ⟨c4, hf⟩
    · refine e_icmp_ne (pc := 5) (tgt := 54) C dX12_answers_5 (by decide) (fun q => absurd c4 q) (fun _ => ?_)
      refine e_aload_n (pc := 8) C dX12_answers_8 0 rfl rfl ?_
      refine q_geti (pc := 9) 34 hI C dX12_answers_9 (by decide) g1435 rfl ?_
      rcases it_e hf with ⟨c5, hf⟩ | ⟨c5, hf⟩
      · refine e_if_ne (pc := 12) (tgt := 54) C dX12_answers_12 (by decide) (fun q => absurd c5 q) (fun _ => ?_)
        refine e_aload_n (pc := 15) C dX12_answers_15 0 rfl rfl ?_
        refine e_iload_n (pc := 16) C dX12_answers_16 1 rfl rfl ?_
        refine e_iconst (v := (0 : Int32)) (pc := 17) C dX12_answers_17 (by decide) ?_
        obtain ⟨w6, y7, hf⟩ := ob_e hf
        refine e_callVv (pc := 18) (st := []) 12 C (pt_X12_entry hI y7) dX12_answers_18 (by decide) hI.1 g1807 g1809 g82 g157 g1810 hd_X12_entry rfl ⟨Nat.le_of_ble_eq_true rfl, Nat.le_of_ble_eq_true rfl⟩ ⟨Nat.le_of_ble_eq_true rfl, Nat.le_of_ble_eq_true rfl⟩ rfl (Nat.le_of_ble_eq_true rfl) ?_
        refine e_aload_n (pc := 21) C dX12_answers_21 0 rfl rfl ?_
        refine e_dup (pc := 22) C dX12_answers_22 rfl ?_
        refine q_geti (pc := 23) 40 hI C dX12_answers_23 (by decide) g1441 rfl ?_
        refine e_iconst (v := (1 : Int32)) (pc := 26) C dX12_answers_26 (by decide) ?_
        refine e_isub (pc := 27) C dX12_answers_27 ?_
        refine q_puti (pc := 28) 40 hI C dX12_answers_28 (by decide) g1441 rfl rfl rfl rfl ?_
        obtain ⟨w8, ew8, hf⟩ := nn_e hf
        refine q_hp ew8 ?_
        refine e_aload_n (pc := 31) C dX12_answers_31 0 rfl rfl ?_
        refine e_dup (pc := 32) C dX12_answers_32 rfl ?_
        refine q_geti (pc := 33) 38 hI C dX12_answers_33 (by decide) g1439 rfl ?_
        refine e_iload_n (pc := 36) C dX12_answers_36 1 rfl rfl ?_
        refine e_bipush (v := (9 : Int32)) (pc := 37) C dX12_answers_37 (by decide) ?_
        obtain ⟨j_47, ej_47, hf⟩ := nn_e hf
        have W_47 : ∀ (s0_47 : Int32), j_47 s0_47 = some y → EE G p l e ({ frames := 1, cells := 0, slots := 0, locals := 22 } : Room) s m args below meth c (none, mh h M y) 0 0 47 [(0, .ref M), (1, .int v1)] [.int s0_47, .int (w8.1 0 38), .ref M] (mh h M w8) 0 0 := by
          intro s0_47 hf
          rw [ej_47] at hf
          refine e_isub (pc := 47) C dX12_answers_47 ?_
          refine q_puti (pc := 48) 38 hI C dX12_answers_48 (by decide) g1439 rfl rfl rfl rfl ?_
          obtain ⟨w9, ew9, hf⟩ := nn_e hf
          refine q_hp ew9 ?_
          refine e_goto (pc := 51) (tgt := 0) C dX12_answers_51 (by decide) ?_
          exact ih_0 w9 hf
        rcases it_e hf with ⟨c10, hf⟩ | ⟨c10, hf⟩
        · refine e_icmp_ne (pc := 39) (tgt := 46) C dX12_answers_39 (by decide) (fun q => absurd c10 q) (fun _ => ?_)
          refine e_iconst (v := (1 : Int32)) (pc := 42) C dX12_answers_42 (by decide) ?_
          refine e_goto (pc := 43) (tgt := 47) C dX12_answers_43 (by decide) ?_
          exact W_47 (1 : Int32) hf
        · refine e_icmp_ne (pc := 39) (tgt := 46) C dX12_answers_39 (by decide) (fun _ => ?_) (fun q => absurd q c10)
          refine e_iconst (v := (0 : Int32)) (pc := 46) C dX12_answers_46 (by decide) ?_
          exact W_47 (0 : Int32) hf
      · refine e_if_ne (pc := 12) (tgt := 54) C dX12_answers_12 (by decide) (fun _ => ?_) (fun q => absurd q c5)
        obtain rfl := so_e hf
        exact e_vret (pc := 54) C hr dX12_answers_54 (Nat.le_of_ble_eq_true rfl) (Nat.le_of_ble_eq_true rfl)
    · refine e_icmp_ne (pc := 5) (tgt := 54) C dX12_answers_5 (by decide) (fun _ => ?_) (fun q => absurd q c4)
      obtain rfl := so_e hf
      exact e_vret (pc := 54) C hr dX12_answers_54 (Nat.le_of_ble_eq_true rfl) (Nat.le_of_ble_eq_true rfl)
set_option maxHeartbeats 4000000 in
set_option maxRecDepth 100000 in
theorem pt_X12_answers {G : GG} {l : Launch} {M : Nat} {h : AH} (hI : MI h M) {v1 : Int32} {w : MS} {y : MS} (hf : p_X12_answers G v1 w = some y) : Ct G l yX12_answers cX12_answers 2 none 1 22 0 0 [.ref M, .int v1] (mh h M w) (none, mh h M y) := by
  refine ct_of (by decide) (Nat.le_of_ble_eq_true rfl) ?_
  intro p e s m args below meth c C hm hr hin
  have C : Cx G cX12_answers RX12 p s m args meth c := C
  refine e_lv (lv2 := [(0, .ref M), (1, .int v1)]) [0, 1] rfl ?_
  unfold p_X12_answers at hf
  exact ep_X12_answers_0 hI C hm hr hin bN w hf
theorem dX12_fact_0 : decode cX12_fact 0 = .ok (.aload_n 0, 1) := by decide +kernel
theorem dX12_fact_1 : decode cX12_fact 1 = .ok (.invokevirtual 266, 3) := by decide +kernel
theorem dX12_fact_4 : decode cX12_fact 4 = .ok (.aload_n 0, 1) := by decide +kernel
theorem dX12_fact_5 : decode cX12_fact 5 = .ok (.ldc_w 323, 3) := by decide +kernel
theorem dX12_fact_8 : decode cX12_fact 8 = .ok (.invokevirtual 269, 3) := by decide +kernel
theorem dX12_fact_11 : decode cX12_fact 11 = .ok (.ifCond .eq 21, 3) := by decide +kernel
theorem dX12_fact_14 : decode cX12_fact 14 = .ok (.aload_n 0, 1) := by decide +kernel
theorem dX12_fact_15 : decode cX12_fact 15 = .ok (.bipush 9, 2) := by decide +kernel
theorem dX12_fact_17 : decode cX12_fact 17 = .ok (.invokevirtual 325, 3) := by decide +kernel
theorem dX12_fact_20 : decode cX12_fact 20 = .ok (.aload_n 0, 1) := by decide +kernel
theorem dX12_fact_21 : decode cX12_fact 21 = .ok (.dup, 1) := by decide +kernel
theorem dX12_fact_22 : decode cX12_fact 22 = .ok (.getfield 246, 3) := by decide +kernel
theorem dX12_fact_25 : decode cX12_fact 25 = .ok (.iconst 3, 1) := by decide +kernel
theorem dX12_fact_26 : decode cX12_fact 26 = .ok (.iadd, 1) := by decide +kernel
theorem dX12_fact_27 : decode cX12_fact 27 = .ok (.putfield 246, 3) := by decide +kernel
theorem dX12_fact_30 : decode cX12_fact 30 = .ok (.iconst 0, 1) := by decide +kernel
theorem dX12_fact_31 : decode cX12_fact 31 = .ok (.ireturn, 1) := by decide +kernel
theorem dX12_fact_32 : decode cX12_fact 32 = .ok (.aload_n 0, 1) := by decide +kernel
theorem dX12_fact_33 : decode cX12_fact 33 = .ok (.invokevirtual 249, 3) := by decide +kernel
theorem dX12_fact_36 : decode cX12_fact 36 = .ok (.bipush 91, 2) := by decide +kernel
theorem dX12_fact_38 : decode cX12_fact 38 = .ok (.if_icmp .ne 21, 3) := by decide +kernel
theorem dX12_fact_41 : decode cX12_fact 41 = .ok (.aload_n 0, 1) := by decide +kernel
theorem dX12_fact_42 : decode cX12_fact 42 = .ok (.bipush 12, 2) := by decide +kernel
theorem dX12_fact_44 : decode cX12_fact 44 = .ok (.invokevirtual 325, 3) := by decide +kernel
theorem dX12_fact_47 : decode cX12_fact 47 = .ok (.aload_n 0, 1) := by decide +kernel
theorem dX12_fact_48 : decode cX12_fact 48 = .ok (.dup, 1) := by decide +kernel
theorem dX12_fact_49 : decode cX12_fact 49 = .ok (.getfield 246, 3) := by decide +kernel
theorem dX12_fact_52 : decode cX12_fact 52 = .ok (.iconst 1, 1) := by decide +kernel
theorem dX12_fact_53 : decode cX12_fact 53 = .ok (.iadd, 1) := by decide +kernel
theorem dX12_fact_54 : decode cX12_fact 54 = .ok (.putfield 246, 3) := by decide +kernel
theorem dX12_fact_57 : decode cX12_fact 57 = .ok (.iconst 0, 1) := by decide +kernel
theorem dX12_fact_58 : decode cX12_fact 58 = .ok (.ireturn, 1) := by decide +kernel
theorem dX12_fact_59 : decode cX12_fact 59 = .ok (.aload_n 0, 1) := by decide +kernel
theorem dX12_fact_60 : decode cX12_fact 60 = .ok (.invokevirtual 328, 3) := by decide +kernel
theorem dX12_fact_63 : decode cX12_fact 63 = .ok (.iconst 1, 1) := by decide +kernel
theorem dX12_fact_64 : decode cX12_fact 64 = .ok (.ireturn, 1) := by decide +kernel
def p_X12_fact (G : GG) (w : MS) : Option (Int32 × MS) :=
ob (p_X12_blanks G w) fun w1 =>
cw (p_X12_stood G ((G.2.2.2.1 22)) w1) fun r5 w3 =>
if r5 = 0 then (cw (p_X12_sign G w3) fun r9 w7 =>
if r9 = (91 : Int32) then (ob (p_X12_opens G (12 : Int32) w7) fun w11 =>
nn (w_si w11 0 33 ((w11.1 0 33) + (1 : Int32))) fun w13 =>
some ((0 : Int32), w13)) else
ob (p_X12_compared G w7) fun w14 =>
some ((1 : Int32), w14)) else
ob (p_X12_opens G (9 : Int32) w3) fun w16 =>
nn (w_si w16 0 33 ((w16.1 0 33) + (3 : Int32))) fun w18 =>
some ((0 : Int32), w18)
set_option maxHeartbeats 4000000 in
set_option maxRecDepth 100000 in
theorem pt_X12_fact {G : GG} {l : Launch} {M : Nat} {h : AH} (hI : MI h M) {w : MS} {y : Int32 × MS} (hf : p_X12_fact G w = some y) : Ct G l yX12_fact cX12_fact 1 (some .boolean) 9 195 0 0 [.ref M] (mh h M w) (some (.int y.1), mh h M y.2) := by
  refine ct_of (by decide) (Nat.le_of_ble_eq_true rfl) ?_
  intro p e s m args below meth c C hm hr hin
  have C : Cx G cX12_fact RX12 p s m args meth c := C
  refine e_lv (lv2 := [(0, .ref M)]) [0] rfl ?_
  unfold p_X12_fact at hf
  refine e_aload_n (pc := 0) C dX12_fact_0 0 rfl rfl ?_
  obtain ⟨w1, y2, hf⟩ := ob_e hf
  refine e_callVv (pc := 1) (st := []) 12 C (pt_X12_blanks hI y2) dX12_fact_1 (by decide) hI.1 g1686 g1688 g59 g157 g1689 hd_X12_blanks rfl ⟨Nat.le_of_ble_eq_true rfl, Nat.le_of_ble_eq_true rfl⟩ ⟨Nat.le_of_ble_eq_true rfl, Nat.le_of_ble_eq_true rfl⟩ rfl (Nat.le_of_ble_eq_true rfl) ?_
  refine e_aload_n (pc := 4) C dX12_fact_4 0 rfl rfl ?_
  refine e_ldcSw (pc := 5) C dX12_fact_5 22 rfl ?_
  obtain ⟨r5, w3, y4, hf⟩ := cw_e hf
  refine e_callVi (pc := 8) (st := []) 12 C (pt_X12_stood hI y4) dX12_fact_8 (by decide) hI.1 g1704 g1706 g61 g157 g1707 hd_X12_stood rfl ⟨Nat.le_of_ble_eq_true rfl, Nat.le_of_ble_eq_true rfl⟩ ⟨Nat.le_of_ble_eq_true rfl, Nat.le_of_ble_eq_true rfl⟩ rfl (Nat.le_of_ble_eq_true rfl) ?_
  rcases it_e hf with ⟨c6, hf⟩ | ⟨c6, hf⟩
  · refine e_if_eq (pc := 11) (tgt := 32) C dX12_fact_11 (by decide) (fun _ => ?_) (fun q => absurd c6 q)
    refine e_aload_n (pc := 32) C dX12_fact_32 0 rfl rfl ?_
    obtain ⟨r9, w7, y8, hf⟩ := cw_e hf
    refine e_callVi (pc := 33) (st := []) 12 C (pt_X12_sign hI y8) dX12_fact_33 (by decide) hI.1 g1690 g1692 g60 g157 g1693 hd_X12_sign rfl ⟨Nat.le_of_ble_eq_true rfl, Nat.le_of_ble_eq_true rfl⟩ ⟨Nat.le_of_ble_eq_true rfl, Nat.le_of_ble_eq_true rfl⟩ rfl (Nat.le_of_ble_eq_true rfl) ?_
    refine e_bipush (v := (91 : Int32)) (pc := 36) C dX12_fact_36 (by decide) ?_
    rcases it_e hf with ⟨c10, hf⟩ | ⟨c10, hf⟩
    · refine e_icmp_ne (pc := 38) (tgt := 59) C dX12_fact_38 (by decide) (fun q => absurd c10 q) (fun _ => ?_)
      refine e_aload_n (pc := 41) C dX12_fact_41 0 rfl rfl ?_
      refine e_bipush (v := (12 : Int32)) (pc := 42) C dX12_fact_42 (by decide) ?_
      obtain ⟨w11, y12, hf⟩ := ob_e hf
      refine e_callVv (pc := 44) (st := []) 12 C (pt_X12_opens hI y12) dX12_fact_44 (by decide) hI.1 g1839 g1841 g86 g157 g1842 hd_X12_opens rfl ⟨Nat.le_of_ble_eq_true rfl, Nat.le_of_ble_eq_true rfl⟩ ⟨Nat.le_of_ble_eq_true rfl, Nat.le_of_ble_eq_true rfl⟩ rfl (Nat.le_of_ble_eq_true rfl) ?_
      refine e_aload_n (pc := 47) C dX12_fact_47 0 rfl rfl ?_
      refine e_dup (pc := 48) C dX12_fact_48 rfl ?_
      refine q_geti (pc := 49) 33 hI C dX12_fact_49 (by decide) g1434 rfl ?_
      refine e_iconst (v := (1 : Int32)) (pc := 52) C dX12_fact_52 (by decide) ?_
      refine e_iadd (pc := 53) C dX12_fact_53 ?_
      refine q_puti (pc := 54) 33 hI C dX12_fact_54 (by decide) g1434 rfl rfl rfl rfl ?_
      obtain ⟨w13, ew13, hf⟩ := nn_e hf
      refine q_hp ew13 ?_
      refine e_iconst (v := (0 : Int32)) (pc := 57) C dX12_fact_57 (by decide) ?_
      obtain rfl := so_e hf
      exact e_zret (pc := 58) (v := (0 : Int32)) C hr (nz_ok (by decide)) dX12_fact_58 (Nat.le_of_ble_eq_true rfl) (Nat.le_of_ble_eq_true rfl)
    · refine e_icmp_ne (pc := 38) (tgt := 59) C dX12_fact_38 (by decide) (fun _ => ?_) (fun q => absurd q c10)
      refine e_aload_n (pc := 59) C dX12_fact_59 0 rfl rfl ?_
      obtain ⟨w14, y15, hf⟩ := ob_e hf
      refine e_callVv (pc := 60) (st := []) 12 C (pt_X12_compared hI y15) dX12_fact_60 (by decide) hI.1 g1843 g1845 g87 g157 g1846 hd_X12_compared rfl ⟨Nat.le_of_ble_eq_true rfl, Nat.le_of_ble_eq_true rfl⟩ ⟨Nat.le_of_ble_eq_true rfl, Nat.le_of_ble_eq_true rfl⟩ rfl (Nat.le_of_ble_eq_true rfl) ?_
      refine e_iconst (v := (1 : Int32)) (pc := 63) C dX12_fact_63 (by decide) ?_
      obtain rfl := so_e hf
      exact e_zret (pc := 64) (v := (1 : Int32)) C hr (nz_ok (by decide)) dX12_fact_64 (Nat.le_of_ble_eq_true rfl) (Nat.le_of_ble_eq_true rfl)
  · refine e_if_eq (pc := 11) (tgt := 32) C dX12_fact_11 (by decide) (fun q => absurd q c6) (fun _ => ?_)
    refine e_aload_n (pc := 14) C dX12_fact_14 0 rfl rfl ?_
    refine e_bipush (v := (9 : Int32)) (pc := 15) C dX12_fact_15 (by decide) ?_
    obtain ⟨w16, y17, hf⟩ := ob_e hf
    refine e_callVv (pc := 17) (st := []) 12 C (pt_X12_opens hI y17) dX12_fact_17 (by decide) hI.1 g1839 g1841 g86 g157 g1842 hd_X12_opens rfl ⟨Nat.le_of_ble_eq_true rfl, Nat.le_of_ble_eq_true rfl⟩ ⟨Nat.le_of_ble_eq_true rfl, Nat.le_of_ble_eq_true rfl⟩ rfl (Nat.le_of_ble_eq_true rfl) ?_
    refine e_aload_n (pc := 20) C dX12_fact_20 0 rfl rfl ?_
    refine e_dup (pc := 21) C dX12_fact_21 rfl ?_
    refine q_geti (pc := 22) 33 hI C dX12_fact_22 (by decide) g1434 rfl ?_
    refine e_iconst (v := (3 : Int32)) (pc := 25) C dX12_fact_25 (by decide) ?_
    refine e_iadd (pc := 26) C dX12_fact_26 ?_
    refine q_puti (pc := 27) 33 hI C dX12_fact_27 (by decide) g1434 rfl rfl rfl rfl ?_
    obtain ⟨w18, ew18, hf⟩ := nn_e hf
    refine q_hp ew18 ?_
    refine e_iconst (v := (0 : Int32)) (pc := 30) C dX12_fact_30 (by decide) ?_
    obtain rfl := so_e hf
    exact e_zret (pc := 31) (v := (0 : Int32)) C hr (nz_ok (by decide)) dX12_fact_31 (Nat.le_of_ble_eq_true rfl) (Nat.le_of_ble_eq_true rfl)
theorem dX12_test_0 : decode cX12_test 0 = .ok (.aload_n 0, 1) := by decide +kernel
theorem dX12_test_1 : decode cX12_test 1 = .ok (.iconst 0, 1) := by decide +kernel
theorem dX12_test_2 : decode cX12_test 2 = .ok (.putfield 314, 3) := by decide +kernel
theorem dX12_test_5 : decode cX12_test 5 = .ok (.iconst 1, 1) := by decide +kernel
theorem dX12_test_6 : decode cX12_test 6 = .ok (.istore_n 1, 1) := by decide +kernel
theorem dX12_test_7 : decode cX12_test 7 = .ok (.iconst 1, 1) := by decide +kernel
theorem dX12_test_8 : decode cX12_test 8 = .ok (.istore_n 2, 1) := by decide +kernel
theorem dX12_test_9 : decode cX12_test 9 = .ok (.iload_n 2, 1) := by decide +kernel
theorem dX12_test_10 : decode cX12_test 10 = .ok (.ifCond .eq 192, 3) := by decide +kernel
theorem dX12_test_13 : decode cX12_test 13 = .ok (.aload_n 0, 1) := by decide +kernel
theorem dX12_test_14 : decode cX12_test 14 = .ok (.getfield 243, 3) := by decide +kernel
theorem dX12_test_17 : decode cX12_test 17 = .ok (.ifCond .ne 185, 3) := by decide +kernel
theorem dX12_test_20 : decode cX12_test 20 = .ok (.iload_n 1, 1) := by decide +kernel
theorem dX12_test_21 : decode cX12_test 21 = .ok (.ifCond .eq 19, 3) := by decide +kernel
theorem dX12_test_24 : decode cX12_test 24 = .ok (.aload_n 0, 1) := by decide +kernel
theorem dX12_test_25 : decode cX12_test 25 = .ok (.invokevirtual 331, 3) := by decide +kernel
theorem dX12_test_28 : decode cX12_test 28 = .ok (.ifCond .ne 7, 3) := by decide +kernel
theorem dX12_test_31 : decode cX12_test 31 = .ok (.iconst 1, 1) := by decide +kernel
theorem dX12_test_32 : decode cX12_test 32 = .ok (.goto 4, 3) := by decide +kernel
theorem dX12_test_35 : decode cX12_test 35 = .ok (.iconst 0, 1) := by decide +kernel
theorem dX12_test_36 : decode cX12_test 36 = .ok (.istore_n 1, 1) := by decide +kernel
theorem dX12_test_37 : decode cX12_test 37 = .ok (.goto (-28), 3) := by decide +kernel
theorem dX12_test_40 : decode cX12_test 40 = .ok (.aload_n 0, 1) := by decide +kernel
theorem dX12_test_41 : decode cX12_test 41 = .ok (.bipush 9, 2) := by decide +kernel
theorem dX12_test_43 : decode cX12_test 43 = .ok (.invokevirtual 334, 3) := by decide +kernel
theorem dX12_test_46 : decode cX12_test 46 = .ok (.aload_n 0, 1) := by decide +kernel
theorem dX12_test_47 : decode cX12_test 47 = .ok (.invokevirtual 266, 3) := by decide +kernel
theorem dX12_test_50 : decode cX12_test 50 = .ok (.aload_n 0, 1) := by decide +kernel
theorem dX12_test_51 : decode cX12_test 51 = .ok (.ldc_w 337, 3) := by decide +kernel
theorem dX12_test_54 : decode cX12_test 54 = .ok (.invokevirtual 269, 3) := by decide +kernel
theorem dX12_test_57 : decode cX12_test 57 = .ok (.istore_n 3, 1) := by decide +kernel
theorem dX12_test_58 : decode cX12_test 58 = .ok (.aload_n 0, 1) := by decide +kernel
theorem dX12_test_59 : decode cX12_test 59 = .ok (.ldc_w 339, 3) := by decide +kernel
theorem dX12_test_62 : decode cX12_test 62 = .ok (.invokevirtual 269, 3) := by decide +kernel
theorem dX12_test_65 : decode cX12_test 65 = .ok (.istore 4, 2) := by decide +kernel
theorem dX12_test_67 : decode cX12_test 67 = .ok (.aload_n 0, 1) := by decide +kernel
theorem dX12_test_68 : decode cX12_test 68 = .ok (.bipush 10, 2) := by decide +kernel
theorem dX12_test_70 : decode cX12_test 70 = .ok (.invokevirtual 334, 3) := by decide +kernel
theorem dX12_test_73 : decode cX12_test 73 = .ok (.iload_n 3, 1) := by decide +kernel
theorem dX12_test_74 : decode cX12_test 74 = .ok (.ifCond .ne 8, 3) := by decide +kernel
theorem dX12_test_77 : decode cX12_test 77 = .ok (.iload 4, 2) := by decide +kernel
theorem dX12_test_79 : decode cX12_test 79 = .ok (.ifCond .eq 52, 3) := by decide +kernel
theorem dX12_test_82 : decode cX12_test 82 = .ok (.iload 4, 2) := by decide +kernel
theorem dX12_test_84 : decode cX12_test 84 = .ok (.ifCond .eq 9, 3) := by decide +kernel
theorem dX12_test_87 : decode cX12_test 87 = .ok (.aload_n 0, 1) := by decide +kernel
theorem dX12_test_88 : decode cX12_test 88 = .ok (.bipush 11, 2) := by decide +kernel
theorem dX12_test_90 : decode cX12_test 90 = .ok (.invokevirtual 334, 3) := by decide +kernel
theorem dX12_test_93 : decode cX12_test 93 = .ok (.aload_n 0, 1) := by decide +kernel
theorem dX12_test_94 : decode cX12_test 94 = .ok (.iload_n 3, 1) := by decide +kernel
theorem dX12_test_95 : decode cX12_test 95 = .ok (.ifCond .eq 8, 3) := by decide +kernel
theorem dX12_test_98 : decode cX12_test 98 = .ok (.bipush 10, 2) := by decide +kernel
theorem dX12_test_100 : decode cX12_test 100 = .ok (.goto 5, 3) := by decide +kernel
theorem dX12_test_103 : decode cX12_test 103 = .ok (.bipush 11, 2) := by decide +kernel
theorem dX12_test_105 : decode cX12_test 105 = .ok (.invokevirtual 325, 3) := by decide +kernel
theorem dX12_test_108 : decode cX12_test 108 = .ok (.aload_n 0, 1) := by decide +kernel
theorem dX12_test_109 : decode cX12_test 109 = .ok (.dup, 1) := by decide +kernel
theorem dX12_test_110 : decode cX12_test 110 = .ok (.getfield 246, 3) := by decide +kernel
theorem dX12_test_113 : decode cX12_test 113 = .ok (.iload_n 3, 1) := by decide +kernel
theorem dX12_test_114 : decode cX12_test 114 = .ok (.ifCond .eq 7, 3) := by decide +kernel
theorem dX12_test_117 : decode cX12_test 117 = .ok (.iconst 3, 1) := by decide +kernel
theorem dX12_test_118 : decode cX12_test 118 = .ok (.goto 4, 3) := by decide +kernel
theorem dX12_test_121 : decode cX12_test 121 = .ok (.iconst 2, 1) := by decide +kernel
theorem dX12_test_122 : decode cX12_test 122 = .ok (.iadd, 1) := by decide +kernel
theorem dX12_test_123 : decode cX12_test 123 = .ok (.putfield 246, 3) := by decide +kernel
theorem dX12_test_126 : decode cX12_test 126 = .ok (.iconst 1, 1) := by decide +kernel
theorem dX12_test_127 : decode cX12_test 127 = .ok (.istore_n 1, 1) := by decide +kernel
theorem dX12_test_128 : decode cX12_test 128 = .ok (.goto 71, 3) := by decide +kernel
theorem dX12_test_131 : decode cX12_test 131 = .ok (.aload_n 0, 1) := by decide +kernel
theorem dX12_test_132 : decode cX12_test 132 = .ok (.bipush 11, 2) := by decide +kernel
theorem dX12_test_134 : decode cX12_test 134 = .ok (.invokevirtual 334, 3) := by decide +kernel
theorem dX12_test_137 : decode cX12_test 137 = .ok (.aload_n 0, 1) := by decide +kernel
theorem dX12_test_138 : decode cX12_test 138 = .ok (.invokevirtual 320, 3) := by decide +kernel
theorem dX12_test_141 : decode cX12_test 141 = .ok (.bipush 12, 2) := by decide +kernel
theorem dX12_test_143 : decode cX12_test 143 = .ok (.if_icmp .ne 54, 3) := by decide +kernel
theorem dX12_test_146 : decode cX12_test 146 = .ok (.aload_n 0, 1) := by decide +kernel
theorem dX12_test_147 : decode cX12_test 147 = .ok (.invokevirtual 249, 3) := by decide +kernel
theorem dX12_test_150 : decode cX12_test 150 = .ok (.bipush 93, 2) := by decide +kernel
theorem dX12_test_152 : decode cX12_test 152 = .ok (.if_icmp .eq 12, 3) := by decide +kernel
theorem dX12_test_155 : decode cX12_test 155 = .ok (.aload_n 0, 1) := by decide +kernel
theorem dX12_test_156 : decode cX12_test 156 = .ok (.iconst 0, 1) := by decide +kernel
theorem dX12_test_157 : decode cX12_test 157 = .ok (.aload_n 0, 1) := by decide +kernel
theorem dX12_test_158 : decode cX12_test 158 = .ok (.getfield 246, 3) := by decide +kernel
theorem dX12_test_161 : decode cX12_test 161 = .ok (.invokevirtual 282, 3) := by decide +kernel
theorem dX12_test_164 : decode cX12_test 164 = .ok (.aload_n 0, 1) := by decide +kernel
theorem dX12_test_165 : decode cX12_test 165 = .ok (.dup, 1) := by decide +kernel
theorem dX12_test_166 : decode cX12_test 166 = .ok (.getfield 246, 3) := by decide +kernel
theorem dX12_test_169 : decode cX12_test 169 = .ok (.iconst 1, 1) := by decide +kernel
theorem dX12_test_170 : decode cX12_test 170 = .ok (.iadd, 1) := by decide +kernel
theorem dX12_test_171 : decode cX12_test 171 = .ok (.putfield 246, 3) := by decide +kernel
theorem dX12_test_174 : decode cX12_test 174 = .ok (.aload_n 0, 1) := by decide +kernel
theorem dX12_test_175 : decode cX12_test 175 = .ok (.dup, 1) := by decide +kernel
theorem dX12_test_176 : decode cX12_test 176 = .ok (.getfield 314, 3) := by decide +kernel
theorem dX12_test_179 : decode cX12_test 179 = .ok (.iconst 1, 1) := by decide +kernel
theorem dX12_test_180 : decode cX12_test 180 = .ok (.isub, 1) := by decide +kernel
theorem dX12_test_181 : decode cX12_test 181 = .ok (.putfield 314, 3) := by decide +kernel
theorem dX12_test_184 : decode cX12_test 184 = .ok (.aload_n 0, 1) := by decide +kernel
theorem dX12_test_185 : decode cX12_test 185 = .ok (.dup, 1) := by decide +kernel
theorem dX12_test_186 : decode cX12_test 186 = .ok (.getfield 317, 3) := by decide +kernel
theorem dX12_test_189 : decode cX12_test 189 = .ok (.iconst 1, 1) := by decide +kernel
theorem dX12_test_190 : decode cX12_test 190 = .ok (.isub, 1) := by decide +kernel
theorem dX12_test_191 : decode cX12_test 191 = .ok (.putfield 317, 3) := by decide +kernel
theorem dX12_test_194 : decode cX12_test 194 = .ok (.goto 5, 3) := by decide +kernel
theorem dX12_test_197 : decode cX12_test 197 = .ok (.iconst 0, 1) := by decide +kernel
theorem dX12_test_198 : decode cX12_test 198 = .ok (.istore_n 2, 1) := by decide +kernel
theorem dX12_test_199 : decode cX12_test 199 = .ok (.goto (-190), 3) := by decide +kernel
theorem dX12_test_202 : decode cX12_test 202 = .ok (.return_, 1) := by decide +kernel
def P_X12_test_9 (G : GG) (self_9 : Int32 → Int32 → MS → Option (MS)) (v1 : Int32) (v2 : Int32) (w : MS) : Option (MS) :=
if v2 = 0 then (some w) else
if (w.1 0 34) = 0 then (if v1 = 0 then (ob (p_X12_answers G (9 : Int32) w) fun w5 =>
ob (p_X12_blanks G w5) fun w7 =>
cw (p_X12_stood G ((G.2.2.2.1 23)) w7) fun r11 w9 =>
cw (p_X12_stood G ((G.2.2.2.1 24)) w9) fun r14 w12 =>
ob (p_X12_answers G (10 : Int32) w12) fun w15 =>
nn (fun (v1_199 : Int32) (v2_199 : Int32) (h_199 : MS) => (self_9 v1_199 v2_199 h_199)) fun j_199 =>
nn (fun (uu_82 : Unit) => (nn (fun (h_93 : MS) => (nn (fun (s0_105 : Int32) => (ob (p_X12_opens G s0_105 h_93) fun w17 =>
nn (fun (s0_122 : Int32) => (nn (w_si w17 0 33 ((w17.1 0 33) + s0_122)) fun w19 =>
j_199 (1 : Int32) v2 w19)) fun j_122 =>
if r11 = 0 then (j_122 (2 : Int32)) else
j_122 (3 : Int32))) fun j_105 =>
if r11 = 0 then (j_105 (11 : Int32)) else
j_105 (10 : Int32))) fun j_93 =>
if r14 = 0 then (j_93 w15) else
ob (p_X12_answers G (11 : Int32) w15) fun w23 =>
j_93 w23)) fun j_82 =>
if r11 = 0 then (if r14 = 0 then (ob (p_X12_answers G (11 : Int32) w15) fun w27 =>
cw (p_X12_top G w27) fun r31 w29 =>
if r31 = (12 : Int32) then (cw (p_X12_sign G w29) fun r35 w33 =>
nn (fun (h_164 : MS) => (nn (w_si h_164 0 33 ((h_164.1 0 33) + (1 : Int32))) fun w36 =>
nn (w_si w36 0 40 ((w36.1 0 40) - (1 : Int32))) fun w37 =>
nn (w_si w37 0 38 ((w37.1 0 38) - (1 : Int32))) fun w38 =>
j_199 v1 v2 w38)) fun j_164 =>
if r35 = (93 : Int32) then (j_164 w33) else
ob (p_X12_fails G (0 : Int32) (w33.1 0 33) w33) fun w40 =>
j_164 w40) else
j_199 v1 (0 : Int32) w29) else
j_82 ()) else
j_82 ()) else
cw (p_X12_fact G w) fun r44 w42 =>
nn (fun (s0_36 : Int32) => (self_9 s0_36 v2 w42)) fun j_36 =>
if r44 = 0 then (j_36 (1 : Int32)) else
j_36 (0 : Int32)) else
some w
def p_X12_test (G : GG) (w : MS) : Option (MS) :=
nn (w_si w 0 40 (0 : Int32)) fun w1 =>
lw2 (P_X12_test_9 G ) bN (1 : Int32) (1 : Int32) w1
set_option maxHeartbeats 4000000 in
set_option maxRecDepth 100000 in
theorem ep_X12_test_9 {G : GG} {p : Program} {l : Launch} {e : Env} {s : State} {m : MethodId} {args : Array Value} {below : List Frame} {meth : Method} {c : Code} {y : MS} {M : Nat} {h : AH} (hI : MI h M) (C : Cx G cX12_test RX12 p s m args meth c) (hm : c.maxLocals = 5) (hr : meth.sig.returnType = none) (hin : meth.name = yX12_test.name)  :
    ∀ (n : Nat) (v1 : Int32) (v2 : Int32) (w : MS), lw2 (P_X12_test_9 G) n v1 v2 w = some y → EE G p l e ({ frames := 10, cells := 0, slots := 0, locals := 215 } : Room) s m args below meth c (none, mh h M y) 0 0 9 [(0, .ref M), (1, .int v1), (2, .int v2)] [] (mh h M w) 0 0 := by
  intro n
  induction n with
  | zero => intro v1 v2 w hf; exact (no_e hf).elim
  | succ n ih_9 =>
    intro v1 v2 w hf
    have hf : P_X12_test_9 G (lw2 (P_X12_test_9 G) n) v1 v2 w = some y := hf
    generalize lw2 (P_X12_test_9 G) n = self_9 at hf ih_9
    unfold P_X12_test_9 at hf
    refine e_iload_n (pc := 9) C dX12_test_9 2 rfl rfl ?_
    rcases it_e hf with ⟨c2, hf⟩ | ⟨c2, hf⟩
    · refine e_if_eq (pc := 10) (tgt := 202) C dX12_test_10 (by decide) (fun _ => ?_) (fun q => absurd c2 q)
      obtain rfl := so_e hf
      exact e_vret (pc := 202) C hr dX12_test_202 (Nat.le_of_ble_eq_true rfl) (Nat.le_of_ble_eq_true rfl)
    · refine e_if_eq (pc := 10) (tgt := 202) C dX12_test_10 (by decide) (fun q => absurd q c2) (fun _ => ?_)
      refine e_aload_n (pc := 13) C dX12_test_13 0 rfl rfl ?_
      refine q_geti (pc := 14) 34 hI C dX12_test_14 (by decide) g1435 rfl ?_
      rcases it_e hf with ⟨c3, hf⟩ | ⟨c3, hf⟩
      · refine e_if_ne (pc := 17) (tgt := 202) C dX12_test_17 (by decide) (fun q => absurd c3 q) (fun _ => ?_)
        refine e_iload_n (pc := 20) C dX12_test_20 1 rfl rfl ?_
        rcases it_e hf with ⟨c4, hf⟩ | ⟨c4, hf⟩
        · refine e_if_eq (pc := 21) (tgt := 40) C dX12_test_21 (by decide) (fun _ => ?_) (fun q => absurd c4 q)
          refine e_aload_n (pc := 40) C dX12_test_40 0 rfl rfl ?_
          refine e_bipush (v := (9 : Int32)) (pc := 41) C dX12_test_41 (by decide) ?_
          obtain ⟨w5, y6, hf⟩ := ob_e hf
          refine e_callVv (pc := 43) (st := []) 12 C (pt_X12_answers hI y6) dX12_test_43 (by decide) hI.1 g1847 g1849 g88 g157 g1850 hd_X12_answers rfl ⟨Nat.le_of_ble_eq_true rfl, Nat.le_of_ble_eq_true rfl⟩ ⟨Nat.le_of_ble_eq_true rfl, Nat.le_of_ble_eq_true rfl⟩ rfl (Nat.le_of_ble_eq_true rfl) ?_
          refine e_aload_n (pc := 46) C dX12_test_46 0 rfl rfl ?_
          obtain ⟨w7, y8, hf⟩ := ob_e hf
          refine e_callVv (pc := 47) (st := []) 12 C (pt_X12_blanks hI y8) dX12_test_47 (by decide) hI.1 g1686 g1688 g59 g157 g1689 hd_X12_blanks rfl ⟨Nat.le_of_ble_eq_true rfl, Nat.le_of_ble_eq_true rfl⟩ ⟨Nat.le_of_ble_eq_true rfl, Nat.le_of_ble_eq_true rfl⟩ rfl (Nat.le_of_ble_eq_true rfl) ?_
          refine e_aload_n (pc := 50) C dX12_test_50 0 rfl rfl ?_
          refine e_ldcSw (pc := 51) C dX12_test_51 23 rfl ?_
          obtain ⟨r11, w9, y10, hf⟩ := cw_e hf
          refine e_callVi (pc := 54) (st := []) 12 C (pt_X12_stood hI y10) dX12_test_54 (by decide) hI.1 g1704 g1706 g61 g157 g1707 hd_X12_stood rfl ⟨Nat.le_of_ble_eq_true rfl, Nat.le_of_ble_eq_true rfl⟩ ⟨Nat.le_of_ble_eq_true rfl, Nat.le_of_ble_eq_true rfl⟩ rfl (Nat.le_of_ble_eq_true rfl) ?_
          refine e_istore_n (pc := 57) (lv2 := [(3, .int r11), (0, .ref M), (1, .int v1), (2, .int v2)]) C hm dX12_test_57 rfl (by decide) rfl ?_
          refine e_aload_n (pc := 58) C dX12_test_58 1 rfl rfl ?_
          refine e_ldcSw (pc := 59) C dX12_test_59 24 rfl ?_
          obtain ⟨r14, w12, y13, hf⟩ := cw_e hf
          refine e_callVi (pc := 62) (st := []) 12 C (pt_X12_stood hI y13) dX12_test_62 (by decide) hI.1 g1704 g1706 g61 g157 g1707 hd_X12_stood rfl ⟨Nat.le_of_ble_eq_true rfl, Nat.le_of_ble_eq_true rfl⟩ ⟨Nat.le_of_ble_eq_true rfl, Nat.le_of_ble_eq_true rfl⟩ rfl (Nat.le_of_ble_eq_true rfl) ?_
          refine e_istore (pc := 65) (lv2 := [(4, .int r14), (3, .int r11), (0, .ref M), (1, .int v1), (2, .int v2)]) C hm dX12_test_65 (by decide) rfl ?_
          refine e_aload_n (pc := 67) C dX12_test_67 2 rfl rfl ?_
          refine e_bipush (v := (10 : Int32)) (pc := 68) C dX12_test_68 (by decide) ?_
          obtain ⟨w15, y16, hf⟩ := ob_e hf
          refine e_callVv (pc := 70) (st := []) 12 C (pt_X12_answers hI y16) dX12_test_70 (by decide) hI.1 g1847 g1849 g88 g157 g1850 hd_X12_answers rfl ⟨Nat.le_of_ble_eq_true rfl, Nat.le_of_ble_eq_true rfl⟩ ⟨Nat.le_of_ble_eq_true rfl, Nat.le_of_ble_eq_true rfl⟩ rfl (Nat.le_of_ble_eq_true rfl) ?_
          refine e_iload_n (pc := 73) C dX12_test_73 1 rfl rfl ?_
          obtain ⟨j_199, ej_199, hf⟩ := nn_e hf
          have W_199 : ∀ (v1_199 : Int32) (v2_199 : Int32) (h_199 : MS), j_199 v1_199 v2_199 h_199 = some y → EE G p l e ({ frames := 10, cells := 0, slots := 0, locals := 215 } : Room) s m args below meth c (none, mh h M y) 0 0 199 [(0, .ref M), (1, .int v1_199), (2, .int v2_199)] [] (mh h M h_199) 0 0 := by
            intro v1_199 v2_199 h_199 hf
            rw [ej_199] at hf
            refine e_goto (pc := 199) (tgt := 9) C dX12_test_199 (by decide) ?_
            exact ih_9 v1_199 v2_199 h_199 hf
          obtain ⟨j_82, ej_82, hf⟩ := nn_e hf
          have W_82 : ∀ (uu_82 : Unit), j_82 uu_82 = some y → EE G p l e ({ frames := 10, cells := 0, slots := 0, locals := 215 } : Room) s m args below meth c (none, mh h M y) 0 0 82 [(0, .ref M), (2, .int v2), (3, .int r11), (4, .int r14)] [] (mh h M w15) 0 0 := by
            intro uu_82 hf
            rw [ej_82] at hf
            refine e_iload (pc := 82) C dX12_test_82 3 rfl ?_
            obtain ⟨j_93, ej_93, hf⟩ := nn_e hf
            have W_93 : ∀ (h_93 : MS), j_93 h_93 = some y → EE G p l e ({ frames := 10, cells := 0, slots := 0, locals := 215 } : Room) s m args below meth c (none, mh h M y) 0 0 93 [(0, .ref M), (2, .int v2), (3, .int r11)] [] (mh h M h_93) 0 0 := by
              intro h_93 hf
              rw [ej_93] at hf
              refine e_aload_n (pc := 93) C dX12_test_93 0 rfl rfl ?_
              refine e_iload_n (pc := 94) C dX12_test_94 2 rfl rfl ?_
              obtain ⟨j_105, ej_105, hf⟩ := nn_e hf
              have W_105 : ∀ (s0_105 : Int32), j_105 s0_105 = some y → EE G p l e ({ frames := 10, cells := 0, slots := 0, locals := 215 } : Room) s m args below meth c (none, mh h M y) 0 0 105 [(0, .ref M), (2, .int v2), (3, .int r11)] [.int s0_105, .ref M] (mh h M h_93) 0 0 := by
                intro s0_105 hf
                rw [ej_105] at hf
                obtain ⟨w17, y18, hf⟩ := ob_e hf
                refine e_callVv (pc := 105) (st := []) 12 C (pt_X12_opens hI y18) dX12_test_105 (by decide) hI.1 g1839 g1841 g86 g157 g1842 hd_X12_opens rfl ⟨Nat.le_of_ble_eq_true rfl, Nat.le_of_ble_eq_true rfl⟩ ⟨Nat.le_of_ble_eq_true rfl, Nat.le_of_ble_eq_true rfl⟩ rfl (Nat.le_of_ble_eq_true rfl) ?_
                refine e_aload_n (pc := 108) C dX12_test_108 0 rfl rfl ?_
                refine e_dup (pc := 109) C dX12_test_109 rfl ?_
                refine q_geti (pc := 110) 33 hI C dX12_test_110 (by decide) g1434 rfl ?_
                refine e_iload_n (pc := 113) C dX12_test_113 2 rfl rfl ?_
                obtain ⟨j_122, ej_122, hf⟩ := nn_e hf
                have W_122 : ∀ (s0_122 : Int32), j_122 s0_122 = some y → EE G p l e ({ frames := 10, cells := 0, slots := 0, locals := 215 } : Room) s m args below meth c (none, mh h M y) 0 0 122 [(0, .ref M), (2, .int v2)] [.int s0_122, .int (w17.1 0 33), .ref M] (mh h M w17) 0 0 := by
                  intro s0_122 hf
                  rw [ej_122] at hf
                  refine e_iadd (pc := 122) C dX12_test_122 ?_
                  refine q_puti (pc := 123) 33 hI C dX12_test_123 (by decide) g1434 rfl rfl rfl rfl ?_
                  obtain ⟨w19, ew19, hf⟩ := nn_e hf
                  refine q_hp ew19 ?_
                  refine e_iconst (v := (1 : Int32)) (pc := 126) C dX12_test_126 (by decide) ?_
                  refine e_istore_n (pc := 127) (lv2 := [(1, .int (1 : Int32)), (0, .ref M), (2, .int v2)]) C hm dX12_test_127 rfl (by decide) rfl ?_
                  refine e_goto (pc := 128) (tgt := 199) C dX12_test_128 (by decide) ?_
                  refine e_lv (lv2 := [(0, .ref M), (1, .int (1 : Int32)), (2, .int v2)]) [1, 0, 2] rfl ?_
                  exact W_199 (1 : Int32) v2 w19 hf
                rcases it_e hf with ⟨c20, hf⟩ | ⟨c20, hf⟩
                · refine e_if_eq (pc := 114) (tgt := 121) C dX12_test_114 (by decide) (fun _ => ?_) (fun q => absurd c20 q)
                  refine e_iconst (v := (2 : Int32)) (pc := 121) C dX12_test_121 (by decide) ?_
                  refine e_lv (lv2 := [(0, .ref M), (2, .int v2)]) [0, 1] rfl ?_
                  exact W_122 (2 : Int32) hf
                · refine e_if_eq (pc := 114) (tgt := 121) C dX12_test_114 (by decide) (fun q => absurd q c20) (fun _ => ?_)
                  refine e_iconst (v := (3 : Int32)) (pc := 117) C dX12_test_117 (by decide) ?_
                  refine e_goto (pc := 118) (tgt := 122) C dX12_test_118 (by decide) ?_
                  refine e_lv (lv2 := [(0, .ref M), (2, .int v2)]) [0, 1] rfl ?_
                  exact W_122 (3 : Int32) hf
              rcases it_e hf with ⟨c21, hf⟩ | ⟨c21, hf⟩
              · refine e_if_eq (pc := 95) (tgt := 103) C dX12_test_95 (by decide) (fun _ => ?_) (fun q => absurd c21 q)
                refine e_bipush (v := (11 : Int32)) (pc := 103) C dX12_test_103 (by decide) ?_
                exact W_105 (11 : Int32) hf
              · refine e_if_eq (pc := 95) (tgt := 103) C dX12_test_95 (by decide) (fun q => absurd q c21) (fun _ => ?_)
                refine e_bipush (v := (10 : Int32)) (pc := 98) C dX12_test_98 (by decide) ?_
                refine e_goto (pc := 100) (tgt := 105) C dX12_test_100 (by decide) ?_
                exact W_105 (10 : Int32) hf
            rcases it_e hf with ⟨c22, hf⟩ | ⟨c22, hf⟩
            · refine e_if_eq (pc := 84) (tgt := 93) C dX12_test_84 (by decide) (fun _ => ?_) (fun q => absurd c22 q)
              refine e_lv (lv2 := [(0, .ref M), (2, .int v2), (3, .int r11)]) [0, 1, 2] rfl ?_
              exact W_93 w15 hf
            · refine e_if_eq (pc := 84) (tgt := 93) C dX12_test_84 (by decide) (fun q => absurd q c22) (fun _ => ?_)
              refine e_aload_n (pc := 87) C dX12_test_87 0 rfl rfl ?_
              refine e_bipush (v := (11 : Int32)) (pc := 88) C dX12_test_88 (by decide) ?_
              obtain ⟨w23, y24, hf⟩ := ob_e hf
              refine e_callVv (pc := 90) (st := []) 12 C (pt_X12_answers hI y24) dX12_test_90 (by decide) hI.1 g1847 g1849 g88 g157 g1850 hd_X12_answers rfl ⟨Nat.le_of_ble_eq_true rfl, Nat.le_of_ble_eq_true rfl⟩ ⟨Nat.le_of_ble_eq_true rfl, Nat.le_of_ble_eq_true rfl⟩ rfl (Nat.le_of_ble_eq_true rfl) ?_
              refine e_lv (lv2 := [(0, .ref M), (2, .int v2), (3, .int r11)]) [0, 1, 2] rfl ?_
              exact W_93 w23 hf
          rcases it_e hf with ⟨c25, hf⟩ | ⟨c25, hf⟩
          · refine e_if_ne (pc := 74) (tgt := 82) C dX12_test_74 (by decide) (fun q => absurd c25 q) (fun _ => ?_)
            refine e_iload (pc := 77) C dX12_test_77 0 rfl ?_
            rcases it_e hf with ⟨c26, hf⟩ | ⟨c26, hf⟩
            · refine e_if_eq (pc := 79) (tgt := 131) C dX12_test_79 (by decide) (fun _ => ?_) (fun q => absurd c26 q)
              refine e_aload_n (pc := 131) C dX12_test_131 2 rfl rfl ?_
              refine e_bipush (v := (11 : Int32)) (pc := 132) C dX12_test_132 (by decide) ?_
              obtain ⟨w27, y28, hf⟩ := ob_e hf
              refine e_callVv (pc := 134) (st := []) 12 C (pt_X12_answers hI y28) dX12_test_134 (by decide) hI.1 g1847 g1849 g88 g157 g1850 hd_X12_answers rfl ⟨Nat.le_of_ble_eq_true rfl, Nat.le_of_ble_eq_true rfl⟩ ⟨Nat.le_of_ble_eq_true rfl, Nat.le_of_ble_eq_true rfl⟩ rfl (Nat.le_of_ble_eq_true rfl) ?_
              refine e_aload_n (pc := 137) C dX12_test_137 2 rfl rfl ?_
              obtain ⟨r31, w29, y30, hf⟩ := cw_e hf
              refine e_callVi (pc := 138) (st := []) 12 C (pt_X12_top hI y30) dX12_test_138 (by decide) hI.1 g1851 g1853 g89 g157 g1854 hd_X12_top rfl ⟨Nat.le_of_ble_eq_true rfl, Nat.le_of_ble_eq_true rfl⟩ ⟨Nat.le_of_ble_eq_true rfl, Nat.le_of_ble_eq_true rfl⟩ rfl (Nat.le_of_ble_eq_true rfl) ?_
              refine e_bipush (v := (12 : Int32)) (pc := 141) C dX12_test_141 (by decide) ?_
              rcases it_e hf with ⟨c32, hf⟩ | ⟨c32, hf⟩
              · refine e_icmp_ne (pc := 143) (tgt := 197) C dX12_test_143 (by decide) (fun q => absurd c32 q) (fun _ => ?_)
                refine e_aload_n (pc := 146) C dX12_test_146 2 rfl rfl ?_
                obtain ⟨r35, w33, y34, hf⟩ := cw_e hf
                refine e_callVi (pc := 147) (st := []) 12 C (pt_X12_sign hI y34) dX12_test_147 (by decide) hI.1 g1690 g1692 g60 g157 g1693 hd_X12_sign rfl ⟨Nat.le_of_ble_eq_true rfl, Nat.le_of_ble_eq_true rfl⟩ ⟨Nat.le_of_ble_eq_true rfl, Nat.le_of_ble_eq_true rfl⟩ rfl (Nat.le_of_ble_eq_true rfl) ?_
                refine e_bipush (v := (93 : Int32)) (pc := 150) C dX12_test_150 (by decide) ?_
                obtain ⟨j_164, ej_164, hf⟩ := nn_e hf
                have W_164 : ∀ (h_164 : MS), j_164 h_164 = some y → EE G p l e ({ frames := 10, cells := 0, slots := 0, locals := 215 } : Room) s m args below meth c (none, mh h M y) 0 0 164 [(0, .ref M), (1, .int v1), (2, .int v2)] [] (mh h M h_164) 0 0 := by
                  intro h_164 hf
                  rw [ej_164] at hf
                  refine e_aload_n (pc := 164) C dX12_test_164 0 rfl rfl ?_
                  refine e_dup (pc := 165) C dX12_test_165 rfl ?_
                  refine q_geti (pc := 166) 33 hI C dX12_test_166 (by decide) g1434 rfl ?_
                  refine e_iconst (v := (1 : Int32)) (pc := 169) C dX12_test_169 (by decide) ?_
                  refine e_iadd (pc := 170) C dX12_test_170 ?_
                  refine q_puti (pc := 171) 33 hI C dX12_test_171 (by decide) g1434 rfl rfl rfl rfl ?_
                  obtain ⟨w36, ew36, hf⟩ := nn_e hf
                  refine q_hp ew36 ?_
                  refine e_aload_n (pc := 174) C dX12_test_174 0 rfl rfl ?_
                  refine e_dup (pc := 175) C dX12_test_175 rfl ?_
                  refine q_geti (pc := 176) 40 hI C dX12_test_176 (by decide) g1441 rfl ?_
                  refine e_iconst (v := (1 : Int32)) (pc := 179) C dX12_test_179 (by decide) ?_
                  refine e_isub (pc := 180) C dX12_test_180 ?_
                  refine q_puti (pc := 181) 40 hI C dX12_test_181 (by decide) g1441 rfl rfl rfl rfl ?_
                  obtain ⟨w37, ew37, hf⟩ := nn_e hf
                  refine q_hp ew37 ?_
                  refine e_aload_n (pc := 184) C dX12_test_184 0 rfl rfl ?_
                  refine e_dup (pc := 185) C dX12_test_185 rfl ?_
                  refine q_geti (pc := 186) 38 hI C dX12_test_186 (by decide) g1439 rfl ?_
                  refine e_iconst (v := (1 : Int32)) (pc := 189) C dX12_test_189 (by decide) ?_
                  refine e_isub (pc := 190) C dX12_test_190 ?_
                  refine q_puti (pc := 191) 38 hI C dX12_test_191 (by decide) g1439 rfl rfl rfl rfl ?_
                  obtain ⟨w38, ew38, hf⟩ := nn_e hf
                  refine q_hp ew38 ?_
                  refine e_goto (pc := 194) (tgt := 199) C dX12_test_194 (by decide) ?_
                  exact W_199 v1 v2 w38 hf
                rcases it_e hf with ⟨c39, hf⟩ | ⟨c39, hf⟩
                · refine e_icmp_eq (pc := 152) (tgt := 164) C dX12_test_152 (by decide) (fun _ => ?_) (fun q => absurd c39 q)
                  refine e_lv (lv2 := [(0, .ref M), (1, .int v1), (2, .int v2)]) [2, 3, 4] rfl ?_
                  exact W_164 w33 hf
                · refine e_icmp_eq (pc := 152) (tgt := 164) C dX12_test_152 (by decide) (fun q => absurd q c39) (fun _ => ?_)
                  refine e_aload_n (pc := 155) C dX12_test_155 2 rfl rfl ?_
                  refine e_iconst (v := (0 : Int32)) (pc := 156) C dX12_test_156 (by decide) ?_
                  refine e_aload_n (pc := 157) C dX12_test_157 2 rfl rfl ?_
                  refine q_geti (pc := 158) 33 hI C dX12_test_158 (by decide) g1434 rfl ?_
                  obtain ⟨w40, y41, hf⟩ := ob_e hf
                  refine e_callVv (pc := 161) (st := []) 12 C (pt_X12_fails hI y41) dX12_test_161 (by decide) hI.1 g1710 g1712 g62 g157 g1713 hd_X12_fails rfl ⟨Nat.le_of_ble_eq_true rfl, Nat.le_of_ble_eq_true rfl⟩ ⟨Nat.le_of_ble_eq_true rfl, Nat.le_of_ble_eq_true rfl⟩ rfl (Nat.le_of_ble_eq_true rfl) ?_
                  refine e_lv (lv2 := [(0, .ref M), (1, .int v1), (2, .int v2)]) [2, 3, 4] rfl ?_
                  exact W_164 w40 hf
              · refine e_icmp_ne (pc := 143) (tgt := 197) C dX12_test_143 (by decide) (fun _ => ?_) (fun q => absurd q c32)
                refine e_iconst (v := (0 : Int32)) (pc := 197) C dX12_test_197 (by decide) ?_
                refine e_istore_n (pc := 198) (lv2 := [(2, .int (0 : Int32)), (4, .int r14), (3, .int r11), (0, .ref M), (1, .int v1)]) C hm dX12_test_198 rfl (by decide) rfl ?_
                refine e_lv (lv2 := [(0, .ref M), (1, .int v1), (2, .int (0 : Int32))]) [3, 4, 0] rfl ?_
                exact W_199 v1 (0 : Int32) w29 hf
            · refine e_if_eq (pc := 79) (tgt := 131) C dX12_test_79 (by decide) (fun q => absurd q c26) (fun _ => ?_)
              refine e_lv (lv2 := [(0, .ref M), (2, .int v2), (3, .int r11), (4, .int r14)]) [2, 4, 1, 0] rfl ?_
              exact W_82 () hf
          · refine e_if_ne (pc := 74) (tgt := 82) C dX12_test_74 (by decide) (fun _ => ?_) (fun q => absurd q c25)
            refine e_lv (lv2 := [(0, .ref M), (2, .int v2), (3, .int r11), (4, .int r14)]) [2, 4, 1, 0] rfl ?_
            exact W_82 () hf
        · refine e_if_eq (pc := 21) (tgt := 40) C dX12_test_21 (by decide) (fun q => absurd q c4) (fun _ => ?_)
          refine e_aload_n (pc := 24) C dX12_test_24 0 rfl rfl ?_
          obtain ⟨r44, w42, y43, hf⟩ := cw_e hf
          refine e_callVi (pc := 25) (st := []) 12 C (pt_X12_fact hI y43) dX12_test_25 (by decide) hI.1 g1834 g1836 g85 g157 g1837 hd_X12_fact rfl ⟨Nat.le_of_ble_eq_true rfl, Nat.le_of_ble_eq_true rfl⟩ ⟨Nat.le_of_ble_eq_true rfl, Nat.le_of_ble_eq_true rfl⟩ rfl (Nat.le_of_ble_eq_true rfl) ?_
          obtain ⟨j_36, ej_36, hf⟩ := nn_e hf
          have W_36 : ∀ (s0_36 : Int32), j_36 s0_36 = some y → EE G p l e ({ frames := 10, cells := 0, slots := 0, locals := 215 } : Room) s m args below meth c (none, mh h M y) 0 0 36 [(0, .ref M), (2, .int v2)] [.int s0_36] (mh h M w42) 0 0 := by
            intro s0_36 hf
            rw [ej_36] at hf
            refine e_istore_n (pc := 36) (lv2 := [(1, .int s0_36), (0, .ref M), (2, .int v2)]) C hm dX12_test_36 rfl (by decide) rfl ?_
            refine e_goto (pc := 37) (tgt := 9) C dX12_test_37 (by decide) ?_
            refine e_lv (lv2 := [(0, .ref M), (1, .int s0_36), (2, .int v2)]) [1, 0, 2] rfl ?_
            exact ih_9 s0_36 v2 w42 hf
          rcases it_e hf with ⟨c45, hf⟩ | ⟨c45, hf⟩
          · refine e_if_ne (pc := 28) (tgt := 35) C dX12_test_28 (by decide) (fun q => absurd c45 q) (fun _ => ?_)
            refine e_iconst (v := (1 : Int32)) (pc := 31) C dX12_test_31 (by decide) ?_
            refine e_goto (pc := 32) (tgt := 36) C dX12_test_32 (by decide) ?_
            refine e_lv (lv2 := [(0, .ref M), (2, .int v2)]) [0, 2] rfl ?_
            exact W_36 (1 : Int32) hf
          · refine e_if_ne (pc := 28) (tgt := 35) C dX12_test_28 (by decide) (fun _ => ?_) (fun q => absurd q c45)
            refine e_iconst (v := (0 : Int32)) (pc := 35) C dX12_test_35 (by decide) ?_
            refine e_lv (lv2 := [(0, .ref M), (2, .int v2)]) [0, 2] rfl ?_
            exact W_36 (0 : Int32) hf
      · refine e_if_ne (pc := 17) (tgt := 202) C dX12_test_17 (by decide) (fun _ => ?_) (fun q => absurd q c3)
        obtain rfl := so_e hf
        exact e_vret (pc := 202) C hr dX12_test_202 (Nat.le_of_ble_eq_true rfl) (Nat.le_of_ble_eq_true rfl)
set_option maxHeartbeats 4000000 in
set_option maxRecDepth 100000 in
theorem pt_X12_test {G : GG} {l : Launch} {M : Nat} {h : AH} (hI : MI h M) {w : MS} {y : MS} (hf : p_X12_test G w = some y) : Ct G l yX12_test cX12_test 5 none 10 215 0 0 [.ref M] (mh h M w) (none, mh h M y) := by
  refine ct_of (by decide) (Nat.le_of_ble_eq_true rfl) ?_
  intro p e s m args below meth c C hm hr hin
  have C : Cx G cX12_test RX12 p s m args meth c := C
  refine e_lv (lv2 := [(0, .ref M)]) [0] rfl ?_
  unfold p_X12_test at hf
  refine e_aload_n (pc := 0) C dX12_test_0 0 rfl rfl ?_
  refine e_iconst (v := (0 : Int32)) (pc := 1) C dX12_test_1 (by decide) ?_
  refine q_puti (pc := 2) 40 hI C dX12_test_2 (by decide) g1441 rfl rfl rfl rfl ?_
  obtain ⟨w1, ew1, hf⟩ := nn_e hf
  refine q_hp ew1 ?_
  refine e_iconst (v := (1 : Int32)) (pc := 5) C dX12_test_5 (by decide) ?_
  refine e_istore_n (pc := 6) (lv2 := [(1, .int (1 : Int32)), (0, .ref M)]) C hm dX12_test_6 rfl (by decide) rfl ?_
  refine e_iconst (v := (1 : Int32)) (pc := 7) C dX12_test_7 (by decide) ?_
  refine e_istore_n (pc := 8) (lv2 := [(2, .int (1 : Int32)), (1, .int (1 : Int32)), (0, .ref M)]) C hm dX12_test_8 rfl (by decide) rfl ?_
  refine e_lv (lv2 := [(0, .ref M), (1, .int (1 : Int32)), (2, .int (1 : Int32))]) [2, 1, 0] rfl ?_
  exact ep_X12_test_9 hI C hm hr hin bN (1 : Int32) (1 : Int32) w1 hf
theorem dX12_amount_0 : decode cX12_amount 0 = .ok (.aload_n 0, 1) := by decide +kernel
theorem dX12_amount_1 : decode cX12_amount 1 = .ok (.invokevirtual 266, 3) := by decide +kernel
theorem dX12_amount_4 : decode cX12_amount 4 = .ok (.aload_n 0, 1) := by decide +kernel
theorem dX12_amount_5 : decode cX12_amount 5 = .ok (.getfield 246, 3) := by decide +kernel
theorem dX12_amount_8 : decode cX12_amount 8 = .ok (.istore_n 3, 1) := by decide +kernel
theorem dX12_amount_9 : decode cX12_amount 9 = .ok (.aload_n 0, 1) := by decide +kernel
theorem dX12_amount_10 : decode cX12_amount 10 = .ok (.getfield 243, 3) := by decide +kernel
theorem dX12_amount_13 : decode cX12_amount 13 = .ok (.ifCond .ne 13, 3) := by decide +kernel
theorem dX12_amount_16 : decode cX12_amount 16 = .ok (.aload_n 0, 1) := by decide +kernel
theorem dX12_amount_17 : decode cX12_amount 17 = .ok (.ldc_w 290, 3) := by decide +kernel
theorem dX12_amount_20 : decode cX12_amount 20 = .ok (.invokevirtual 291, 3) := by decide +kernel
theorem dX12_amount_23 : decode cX12_amount 23 = .ok (.goto 4, 3) := by decide +kernel
theorem dX12_amount_26 : decode cX12_amount 26 = .ok (.iconst 0, 1) := by decide +kernel
theorem dX12_amount_27 : decode cX12_amount 27 = .ok (.istore 4, 2) := by decide +kernel
theorem dX12_amount_29 : decode cX12_amount 29 = .ok (.aload_n 0, 1) := by decide +kernel
theorem dX12_amount_30 : decode cX12_amount 30 = .ok (.getfield 243, 3) := by decide +kernel
theorem dX12_amount_33 : decode cX12_amount 33 = .ok (.ifCond .ne 22, 3) := by decide +kernel
theorem dX12_amount_36 : decode cX12_amount 36 = .ok (.iload 4, 2) := by decide +kernel
theorem dX12_amount_38 : decode cX12_amount 38 = .ok (.i2l, 1) := by decide +kernel
theorem dX12_amount_39 : decode cX12_amount 39 = .ok (.iload_n 1, 1) := by decide +kernel
theorem dX12_amount_40 : decode cX12_amount 40 = .ok (.i2l, 1) := by decide +kernel
theorem dX12_amount_41 : decode cX12_amount 41 = .ok (.iload_n 2, 1) := by decide +kernel
theorem dX12_amount_42 : decode cX12_amount 42 = .ok (.i2l, 1) := by decide +kernel
theorem dX12_amount_43 : decode cX12_amount 43 = .ok (.invokestatic 206, 3) := by decide +kernel
theorem dX12_amount_46 : decode cX12_amount 46 = .ok (.ifCond .ne 9, 3) := by decide +kernel
theorem dX12_amount_49 : decode cX12_amount 49 = .ok (.aload_n 0, 1) := by decide +kernel
theorem dX12_amount_50 : decode cX12_amount 50 = .ok (.iconst 1, 1) := by decide +kernel
theorem dX12_amount_51 : decode cX12_amount 51 = .ok (.iload_n 3, 1) := by decide +kernel
theorem dX12_amount_52 : decode cX12_amount 52 = .ok (.invokevirtual 282, 3) := by decide +kernel
theorem dX12_amount_55 : decode cX12_amount 55 = .ok (.iload 4, 2) := by decide +kernel
theorem dX12_amount_57 : decode cX12_amount 57 = .ok (.ireturn, 1) := by decide +kernel
def p_X12_amount (G : GG) (v1 : Int32) (v2 : Int32) (w : MS) : Option (Int32 × MS) :=
ob (p_X12_blanks G w) fun w1 =>
nn (w1.1 0 33) fun x3 =>
nn (fun (s0_27 : Int32) (h_27 : MS) => (if (h_27.1 0 34) = 0 then (cw (p_X12_in G s0_27.toInt64 v1.toInt64 v2.toInt64 h_27) fun r7 w5 =>
if r7 = 0 then (ob (p_X12_fails G (1 : Int32) x3 w5) fun w9 =>
some (s0_27, w9)) else
some (s0_27, w5)) else
some (s0_27, h_27))) fun j_27 =>
if (w1.1 0 34) = 0 then (cw (p_X12_digits G (99999 : Int32) w1) fun r14 w12 =>
j_27 r14 w12) else
j_27 (0 : Int32) w1
set_option maxHeartbeats 4000000 in
set_option maxRecDepth 100000 in
theorem pt_X12_amount {G : GG} {l : Launch} {M : Nat} {h : AH} (hI : MI h M) {v1 : Int32} {v2 : Int32} {w : MS} {y : Int32 × MS} (hf : p_X12_amount G v1 v2 w = some y) : Ct G l yX12_amount cX12_amount 5 (some .int) 3 68 0 0 [.ref M, .int v1, .int v2] (mh h M w) (some (.int y.1), mh h M y.2) := by
  refine ct_of (by decide) (Nat.le_of_ble_eq_true rfl) ?_
  intro p e s m args below meth c C hm hr hin
  have C : Cx G cX12_amount RX12 p s m args meth c := C
  refine e_lv (lv2 := [(0, .ref M), (1, .int v1), (2, .int v2)]) [0, 1, 2] rfl ?_
  unfold p_X12_amount at hf
  refine e_aload_n (pc := 0) C dX12_amount_0 0 rfl rfl ?_
  obtain ⟨w1, y2, hf⟩ := ob_e hf
  refine e_callVv (pc := 1) (st := []) 12 C (pt_X12_blanks hI y2) dX12_amount_1 (by decide) hI.1 g1686 g1688 g59 g157 g1689 hd_X12_blanks rfl ⟨Nat.le_of_ble_eq_true rfl, Nat.le_of_ble_eq_true rfl⟩ ⟨Nat.le_of_ble_eq_true rfl, Nat.le_of_ble_eq_true rfl⟩ rfl (Nat.le_of_ble_eq_true rfl) ?_
  refine e_aload_n (pc := 4) C dX12_amount_4 0 rfl rfl ?_
  refine q_geti (pc := 5) 33 hI C dX12_amount_5 (by decide) g1434 rfl ?_
  obtain ⟨x3, ex3, hf⟩ := nn_e hf
  refine e_topi ex3 ?_
  refine e_istore_n (pc := 8) (lv2 := [(3, .int x3), (0, .ref M), (1, .int v1), (2, .int v2)]) C hm dX12_amount_8 rfl (by decide) rfl ?_
  refine e_aload_n (pc := 9) C dX12_amount_9 1 rfl rfl ?_
  refine q_geti (pc := 10) 34 hI C dX12_amount_10 (by decide) g1435 rfl ?_
  obtain ⟨j_27, ej_27, hf⟩ := nn_e hf
  have W_27 : ∀ (s0_27 : Int32) (h_27 : MS), j_27 s0_27 h_27 = some y → EE G p l e ({ frames := 3, cells := 0, slots := 0, locals := 68 } : Room) s m args below meth c (some (.int y.1), mh h M y.2) 0 0 27 [(0, .ref M), (1, .int v1), (2, .int v2), (3, .int x3)] [.int s0_27] (mh h M h_27) 0 0 := by
    intro s0_27 h_27 hf
    rw [ej_27] at hf
    refine e_istore (pc := 27) (lv2 := [(4, .int s0_27), (0, .ref M), (1, .int v1), (2, .int v2), (3, .int x3)]) C hm dX12_amount_27 (by decide) rfl ?_
    refine e_aload_n (pc := 29) C dX12_amount_29 1 rfl rfl ?_
    refine q_geti (pc := 30) 34 hI C dX12_amount_30 (by decide) g1435 rfl ?_
    rcases it_e hf with ⟨c4, hf⟩ | ⟨c4, hf⟩
    · refine e_if_ne (pc := 33) (tgt := 55) C dX12_amount_33 (by decide) (fun q => absurd c4 q) (fun _ => ?_)
      refine e_iload (pc := 36) C dX12_amount_36 0 rfl ?_
      refine e_i2l (pc := 38) C dX12_amount_38 ?_
      refine e_iload_n (pc := 39) C dX12_amount_39 2 rfl rfl ?_
      refine e_i2l (pc := 40) C dX12_amount_40 ?_
      refine e_iload_n (pc := 41) C dX12_amount_41 3 rfl rfl ?_
      refine e_i2l (pc := 42) C dX12_amount_42 ?_
      obtain ⟨r7, w5, y6, hf⟩ := cw_e hf
      refine e_callSi (pc := 43) (st := []) C (pt_X12_in hI y6) dX12_amount_43 g1737 g1738 g157 g1739 hd_X12_in rfl ⟨Nat.le_of_ble_eq_true rfl, Nat.le_of_ble_eq_true rfl⟩ ⟨Nat.le_of_ble_eq_true rfl, Nat.le_of_ble_eq_true rfl⟩ rfl (Nat.le_of_ble_eq_true rfl) ?_
      rcases it_e hf with ⟨c8, hf⟩ | ⟨c8, hf⟩
      · refine e_if_ne (pc := 46) (tgt := 55) C dX12_amount_46 (by decide) (fun q => absurd c8 q) (fun _ => ?_)
        refine e_aload_n (pc := 49) C dX12_amount_49 1 rfl rfl ?_
        refine e_iconst (v := (1 : Int32)) (pc := 50) C dX12_amount_50 (by decide) ?_
        refine e_iload_n (pc := 51) C dX12_amount_51 4 rfl rfl ?_
        obtain ⟨w9, y10, hf⟩ := ob_e hf
        refine e_callVv (pc := 52) (st := []) 12 C (pt_X12_fails hI y10) dX12_amount_52 (by decide) hI.1 g1710 g1712 g62 g157 g1713 hd_X12_fails rfl ⟨Nat.le_of_ble_eq_true rfl, Nat.le_of_ble_eq_true rfl⟩ ⟨Nat.le_of_ble_eq_true rfl, Nat.le_of_ble_eq_true rfl⟩ rfl (Nat.le_of_ble_eq_true rfl) ?_
        refine e_iload (pc := 55) C dX12_amount_55 0 rfl ?_
        obtain rfl := so_e hf
        exact e_iret (pc := 57) C hr dX12_amount_57 (Nat.le_of_ble_eq_true rfl) (Nat.le_of_ble_eq_true rfl)
      · refine e_if_ne (pc := 46) (tgt := 55) C dX12_amount_46 (by decide) (fun _ => ?_) (fun q => absurd q c8)
        refine e_iload (pc := 55) C dX12_amount_55 0 rfl ?_
        obtain rfl := so_e hf
        exact e_iret (pc := 57) C hr dX12_amount_57 (Nat.le_of_ble_eq_true rfl) (Nat.le_of_ble_eq_true rfl)
    · refine e_if_ne (pc := 33) (tgt := 55) C dX12_amount_33 (by decide) (fun _ => ?_) (fun q => absurd q c4)
      refine e_iload (pc := 55) C dX12_amount_55 0 rfl ?_
      obtain rfl := so_e hf
      exact e_iret (pc := 57) C hr dX12_amount_57 (Nat.le_of_ble_eq_true rfl) (Nat.le_of_ble_eq_true rfl)
  rcases it_e hf with ⟨c11, hf⟩ | ⟨c11, hf⟩
  · refine e_if_ne (pc := 13) (tgt := 26) C dX12_amount_13 (by decide) (fun q => absurd c11 q) (fun _ => ?_)
    refine e_aload_n (pc := 16) C dX12_amount_16 1 rfl rfl ?_
    refine e_ldcw (pc := 17) C dX12_amount_17 g1726 ?_
    obtain ⟨r14, w12, y13, hf⟩ := cw_e hf
    refine e_callVi (pc := 20) (st := []) 12 C (pt_X12_digits hI y13) dX12_amount_20 (by decide) hI.1 g1727 g1729 g66 g157 g1730 hd_X12_digits rfl ⟨Nat.le_of_ble_eq_true rfl, Nat.le_of_ble_eq_true rfl⟩ ⟨Nat.le_of_ble_eq_true rfl, Nat.le_of_ble_eq_true rfl⟩ rfl (Nat.le_of_ble_eq_true rfl) ?_
    refine e_goto (pc := 23) (tgt := 27) C dX12_amount_23 (by decide) ?_
    refine e_lv (lv2 := [(0, .ref M), (1, .int v1), (2, .int v2), (3, .int x3)]) [1, 2, 3, 0] rfl ?_
    exact W_27 r14 w12 hf
  · refine e_if_ne (pc := 13) (tgt := 26) C dX12_amount_13 (by decide) (fun _ => ?_) (fun q => absurd q c11)
    refine e_iconst (v := (0 : Int32)) (pc := 26) C dX12_amount_26 (by decide) ?_
    refine e_lv (lv2 := [(0, .ref M), (1, .int v1), (2, .int v2), (3, .int x3)]) [1, 2, 3, 0] rfl ?_
    exact W_27 (0 : Int32) w1 hf
theorem dX12_trainWord_0 : decode cX12_trainWord 0 = .ok (.iload_n 0, 1) := by decide +kernel
theorem dX12_trainWord_1 : decode cX12_trainWord 1 = .ok (.tableswitch 61 0 5 #[39, 43, 46, 50, 54, 58], 39) := by decide +kernel
theorem dX12_trainWord_40 : decode cX12_trainWord 40 = .ok (.ldc_w 341, 3) := by decide +kernel
theorem dX12_trainWord_43 : decode cX12_trainWord 43 = .ok (.areturn, 1) := by decide +kernel
theorem dX12_trainWord_44 : decode cX12_trainWord 44 = .ok (.ldc 217, 2) := by decide +kernel
theorem dX12_trainWord_46 : decode cX12_trainWord 46 = .ok (.areturn, 1) := by decide +kernel
theorem dX12_trainWord_47 : decode cX12_trainWord 47 = .ok (.ldc_w 343, 3) := by decide +kernel
theorem dX12_trainWord_50 : decode cX12_trainWord 50 = .ok (.areturn, 1) := by decide +kernel
theorem dX12_trainWord_51 : decode cX12_trainWord 51 = .ok (.ldc_w 345, 3) := by decide +kernel
theorem dX12_trainWord_54 : decode cX12_trainWord 54 = .ok (.areturn, 1) := by decide +kernel
theorem dX12_trainWord_55 : decode cX12_trainWord 55 = .ok (.ldc_w 347, 3) := by decide +kernel
theorem dX12_trainWord_58 : decode cX12_trainWord 58 = .ok (.areturn, 1) := by decide +kernel
theorem dX12_trainWord_59 : decode cX12_trainWord 59 = .ok (.ldc 223, 2) := by decide +kernel
theorem dX12_trainWord_61 : decode cX12_trainWord 61 = .ok (.areturn, 1) := by decide +kernel
theorem dX12_trainWord_62 : decode cX12_trainWord 62 = .ok (.ldc_w 349, 3) := by decide +kernel
theorem dX12_trainWord_65 : decode cX12_trainWord 65 = .ok (.areturn, 1) := by decide +kernel
def p_X12_trainWord (G : GG) (v0 : Int32) (w : MS) : Option (Nat × MS) :=
if v0 = (0 : Int32) then (some ((G.2.2.2.1 2), w)) else
if v0 = (1 : Int32) then (some ((G.2.2.2.1 3), w)) else
if v0 = (2 : Int32) then (some ((G.2.2.2.1 4), w)) else
if v0 = (3 : Int32) then (some ((G.2.2.2.1 5), w)) else
if v0 = (4 : Int32) then (some ((G.2.2.2.1 6), w)) else
if v0 = (5 : Int32) then (some ((G.2.2.2.1 7), w)) else
some ((G.2.2.2.1 8), w)
set_option maxHeartbeats 4000000 in
set_option maxRecDepth 100000 in
theorem pt_X12_trainWord {G : GG} {l : Launch} {M : Nat} {h : AH} (hI : MI h M) {v0 : Int32} {w : MS} {y : Nat × MS} (hf : p_X12_trainWord G v0 w = some y) : Ct G l yX12_trainWord cX12_trainWord 1 (some (.object "java/lang/String")) 0 0 0 0 [.int v0] (mh h M w) (some (.ref y.1), mh h M y.2) := by
  refine ct_of (by decide) (Nat.le_of_ble_eq_true rfl) ?_
  intro p e s m args below meth c C hm hr hin
  have C : Cx G cX12_trainWord RX12 p s m args meth c := C
  refine e_lv (lv2 := [(0, .int v0)]) [0] rfl ?_
  unfold p_X12_trainWord at hf
  refine e_iload_n (pc := 0) C dX12_trainWord_0 0 rfl rfl ?_
  rcases it_e hf with ⟨c1, hf⟩ | ⟨c1, hf⟩
  · refine e_tabK (pc := 1) (tgt := 40) (0 : Int32) c1 C dX12_trainWord_1 (by decide) (by decide) rfl (by decide) ?_
    refine e_ldcSw (pc := 40) C dX12_trainWord_40 2 rfl ?_
    obtain rfl := so_e hf
    exact e_aret (pc := 43) (r := some ((G.2.2.2.1 2))) C hr (by simp) dX12_trainWord_43 (Nat.le_of_ble_eq_true rfl) (Nat.le_of_ble_eq_true rfl)
  rcases it_e hf with ⟨c2, hf⟩ | ⟨c2, hf⟩
  · refine e_tabK (pc := 1) (tgt := 44) (1 : Int32) c2 C dX12_trainWord_1 (by decide) (by decide) rfl (by decide) ?_
    refine e_ldcS (pc := 44) C dX12_trainWord_44 3 rfl ?_
    obtain rfl := so_e hf
    exact e_aret (pc := 46) (r := some ((G.2.2.2.1 3))) C hr (by simp) dX12_trainWord_46 (Nat.le_of_ble_eq_true rfl) (Nat.le_of_ble_eq_true rfl)
  rcases it_e hf with ⟨c3, hf⟩ | ⟨c3, hf⟩
  · refine e_tabK (pc := 1) (tgt := 47) (2 : Int32) c3 C dX12_trainWord_1 (by decide) (by decide) rfl (by decide) ?_
    refine e_ldcSw (pc := 47) C dX12_trainWord_47 4 rfl ?_
    obtain rfl := so_e hf
    exact e_aret (pc := 50) (r := some ((G.2.2.2.1 4))) C hr (by simp) dX12_trainWord_50 (Nat.le_of_ble_eq_true rfl) (Nat.le_of_ble_eq_true rfl)
  rcases it_e hf with ⟨c4, hf⟩ | ⟨c4, hf⟩
  · refine e_tabK (pc := 1) (tgt := 51) (3 : Int32) c4 C dX12_trainWord_1 (by decide) (by decide) rfl (by decide) ?_
    refine e_ldcSw (pc := 51) C dX12_trainWord_51 5 rfl ?_
    obtain rfl := so_e hf
    exact e_aret (pc := 54) (r := some ((G.2.2.2.1 5))) C hr (by simp) dX12_trainWord_54 (Nat.le_of_ble_eq_true rfl) (Nat.le_of_ble_eq_true rfl)
  rcases it_e hf with ⟨c5, hf⟩ | ⟨c5, hf⟩
  · refine e_tabK (pc := 1) (tgt := 55) (4 : Int32) c5 C dX12_trainWord_1 (by decide) (by decide) rfl (by decide) ?_
    refine e_ldcSw (pc := 55) C dX12_trainWord_55 6 rfl ?_
    obtain rfl := so_e hf
    exact e_aret (pc := 58) (r := some ((G.2.2.2.1 6))) C hr (by simp) dX12_trainWord_58 (Nat.le_of_ble_eq_true rfl) (Nat.le_of_ble_eq_true rfl)
  rcases it_e hf with ⟨c6, hf⟩ | ⟨c6, hf⟩
  · refine e_tabK (pc := 1) (tgt := 59) (5 : Int32) c6 C dX12_trainWord_1 (by decide) (by decide) rfl (by decide) ?_
    refine e_ldcS (pc := 59) C dX12_trainWord_59 7 rfl ?_
    obtain rfl := so_e hf
    exact e_aret (pc := 61) (r := some ((G.2.2.2.1 7))) C hr (by simp) dX12_trainWord_61 (Nat.le_of_ble_eq_true rfl) (Nat.le_of_ble_eq_true rfl)
  refine e_tabOut (pc := 1) (tgt := 62) C dX12_trainWord_1 (by have g0 := i_ne 0 (by decide) c1; have g1 := i_ne 1 (by decide) c2; have g2 := i_ne 2 (by decide) c3; have g3 := i_ne 3 (by decide) c4; have g4 := i_ne 4 (by decide) c5; have g5 := i_ne 5 (by decide) c6; omega) (by decide) ?_
  refine e_ldcSw (pc := 62) C dX12_trainWord_62 8 rfl ?_
  obtain rfl := so_e hf
  exact e_aret (pc := 65) (r := some ((G.2.2.2.1 8))) C hr (by simp) dX12_trainWord_65 (Nat.le_of_ble_eq_true rfl) (Nat.le_of_ble_eq_true rfl)
