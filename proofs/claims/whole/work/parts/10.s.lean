/-! The tape and the reader of rules over rows, by a program of ours: X8_append X8_byteAt X8_isDigit X8_put X8_isLetter X8_isColumn X8_wordIn X8_cutAt X8_advance X8_open X8_fail X8_takeNumber X8_takeByte X3_takePull X3_write X3_readValue X3_isReckoning X3_readSum X3_isJoint X3_readComparison X3_readTest X3_readFact -/
theorem dX8_append_0 : decode cX8_append 0 = .ok (.bipush 24, 2) := by decide +kernel
theorem dX8_append_2 : decode cX8_append 2 = .ok (.istore_n 2, 1) := by decide +kernel
theorem dX8_append_3 : decode cX8_append 3 = .ok (.iload_n 2, 1) := by decide +kernel
theorem dX8_append_4 : decode cX8_append 4 = .ok (.ifCond .lt 42, 3) := by decide +kernel
theorem dX8_append_7 : decode cX8_append 7 = .ok (.aload_n 0, 1) := by decide +kernel
theorem dX8_append_8 : decode cX8_append 8 = .ok (.getfield 15, 3) := by decide +kernel
theorem dX8_append_11 : decode cX8_append 11 = .ok (.sipush 400, 3) := by decide +kernel
theorem dX8_append_14 : decode cX8_append 14 = .ok (.if_icmp .ge 32, 3) := by decide +kernel
theorem dX8_append_17 : decode cX8_append 17 = .ok (.aload_n 0, 1) := by decide +kernel
theorem dX8_append_18 : decode cX8_append 18 = .ok (.getfield 9, 3) := by decide +kernel
theorem dX8_append_21 : decode cX8_append 21 = .ok (.aload_n 0, 1) := by decide +kernel
theorem dX8_append_22 : decode cX8_append 22 = .ok (.getfield 15, 3) := by decide +kernel
theorem dX8_append_25 : decode cX8_append 25 = .ok (.iload_n 1, 1) := by decide +kernel
theorem dX8_append_26 : decode cX8_append 26 = .ok (.iload_n 2, 1) := by decide +kernel
theorem dX8_append_27 : decode cX8_append 27 = .ok (.ishr, 1) := by decide +kernel
theorem dX8_append_28 : decode cX8_append 28 = .ok (.i2b, 1) := by decide +kernel
theorem dX8_append_29 : decode cX8_append 29 = .ok (.bastore, 1) := by decide +kernel
theorem dX8_append_30 : decode cX8_append 30 = .ok (.aload_n 0, 1) := by decide +kernel
theorem dX8_append_31 : decode cX8_append 31 = .ok (.dup, 1) := by decide +kernel
theorem dX8_append_32 : decode cX8_append 32 = .ok (.getfield 15, 3) := by decide +kernel
theorem dX8_append_35 : decode cX8_append 35 = .ok (.iconst 1, 1) := by decide +kernel
theorem dX8_append_36 : decode cX8_append 36 = .ok (.iadd, 1) := by decide +kernel
theorem dX8_append_37 : decode cX8_append 37 = .ok (.putfield 15, 3) := by decide +kernel
theorem dX8_append_40 : decode cX8_append 40 = .ok (.iinc 2 (-8), 3) := by decide +kernel
theorem dX8_append_43 : decode cX8_append 43 = .ok (.goto (-40), 3) := by decide +kernel
theorem dX8_append_46 : decode cX8_append 46 = .ok (.return_, 1) := by decide +kernel
def S_X8_append_3 (G : GG) (v1 : Int32) (self_3 : Int32 → MS → Option (MS)) (v2 : Int32) (w : MS) : Option (MS) :=
if v2 < 0 then (some w) else
if (400 : Int32) ≤ (w.1 0 1) then (some w) else
ck (ixn 400 (w.1 0 1) = true) <|
nn (w_si w 1 (w.1 0 1).toNatClampNeg ((v1 >>> (v2 &&& 31)).toInt8.toInt32).toInt8.toInt32) fun w4 =>
nn (w_si w4 0 1 ((w4.1 0 1) + (1 : Int32))) fun w5 =>
nn (v2 + (-8 : Int32)) fun x6 =>
self_3 x6 w5
def s_X8_append (G : GG) (v1 : Int32) (w : MS) : Option (MS) :=
lw1 (S_X8_append_3 G v1 ) bN (24 : Int32) w
set_option maxHeartbeats 4000000 in
set_option maxRecDepth 100000 in
theorem es_X8_append_3 {G : GG} {p : Program} {l : Launch} {e : Env} {s : State} {m : MethodId} {args : Array Value} {below : List Frame} {meth : Method} {c : Code} {y : MS} {T : Nat} {h : AH} (hI : RI h T) (C : Cx G cX8_append RX8 p s m args meth c) (hm : c.maxLocals = 3) (hr : meth.sig.returnType = none) (hin : meth.name = yX8_append.name) {v1 : Int32}  :
    ∀ (n : Nat) (v2 : Int32) (w : MS), lw1 (S_X8_append_3 G v1) n v2 w = some y → EE G p l e ({ frames := 0, cells := 0, slots := 0, locals := 0 } : Room) s m args below meth c (none, rh h T y) 0 0 3 [(0, .ref (T + 0)), (1, .int v1), (2, .int v2)] [] (rh h T w) 0 0 := by
  intro n
  induction n with
  | zero => intro v2 w hf; exact (no_e hf).elim
  | succ n ih_3 =>
    intro v2 w hf
    have hf : S_X8_append_3 G v1 (lw1 (S_X8_append_3 G v1) n) v2 w = some y := hf
    generalize lw1 (S_X8_append_3 G v1) n = self_3 at hf ih_3
    unfold S_X8_append_3 at hf
    refine e_iload_n (pc := 3) C dX8_append_3 2 rfl rfl ?_
    rcases it_e hf with ⟨c1, hf⟩ | ⟨c1, hf⟩
    · refine e_if_lt (pc := 4) (tgt := 46) C dX8_append_4 (by decide) (fun _ => ?_) (fun q => absurd c1 q)
      obtain rfl := so_e hf
      exact e_vret (pc := 46) C hr dX8_append_46 (Nat.le_of_ble_eq_true rfl) (Nat.le_of_ble_eq_true rfl)
    · refine e_if_lt (pc := 4) (tgt := 46) C dX8_append_4 (by decide) (fun q => absurd q c1) (fun _ => ?_)
      refine e_aload_n (pc := 7) C dX8_append_7 0 rfl rfl ?_
      refine r_geti (pc := 8) 0 8 1 hI C dX8_append_8 (by decide) (by decide) g182 rfl rT0 (by decide) ?_
      refine e_sipush (v := (400 : Int32)) (pc := 11) C dX8_append_11 (by decide) ?_
      rcases it_e hf with ⟨c2, hf⟩ | ⟨c2, hf⟩
      · refine e_icmp_ge (pc := 14) (tgt := 46) C dX8_append_14 (by decide) (fun _ => ?_) (fun q => absurd c2 q)
        obtain rfl := so_e hf
        exact e_vret (pc := 46) C hr dX8_append_46 (Nat.le_of_ble_eq_true rfl) (Nat.le_of_ble_eq_true rfl)
      · refine e_icmp_ge (pc := 14) (tgt := 46) C dX8_append_14 (by decide) (fun q => absurd q c2) (fun _ => ?_)
        refine e_aload_n (pc := 17) C dX8_append_17 0 rfl rfl ?_
        refine r_getr (pc := 18) 0 8 0 1 hI C dX8_append_18 (by decide) (by decide) g181 rfl rT0 (by decide) ?_
        refine e_aload_n (pc := 21) C dX8_append_21 0 rfl rfl ?_
        refine r_geti (pc := 22) 0 8 1 hI C dX8_append_22 (by decide) (by decide) g182 rfl rT0 (by decide) ?_
        refine e_iload_n (pc := 25) C dX8_append_25 1 rfl rfl ?_
        refine e_iload_n (pc := 26) C dX8_append_26 2 rfl rfl ?_
        refine e_ishr (pc := 27) C dX8_append_27 ?_
        refine e_i2b (pc := 28) C dX8_append_28 ?_
        obtain ⟨q3, hf⟩ := ck_e hf
        refine r_bast (pc := 29) 1 400 hI C dX8_append_29 rT1 (by decide) (ixn_e q3) ?_
        obtain ⟨w4, ew4, hf⟩ := nn_e hf
        refine r_hp ew4 ?_
        refine e_aload_n (pc := 30) C dX8_append_30 0 rfl rfl ?_
        refine e_dup (pc := 31) C dX8_append_31 rfl ?_
        refine r_geti (pc := 32) 0 8 1 hI C dX8_append_32 (by decide) (by decide) g182 rfl rT0 (by decide) ?_
        refine e_iconst (v := (1 : Int32)) (pc := 35) C dX8_append_35 (by decide) ?_
        refine e_iadd (pc := 36) C dX8_append_36 ?_
        refine r_puti (pc := 37) 0 8 1 hI C dX8_append_37 (by decide) (by decide) g182 rfl rfl rfl rfl rT0 (by decide) ?_
        obtain ⟨w5, ew5, hf⟩ := nn_e hf
        refine r_hp ew5 ?_
        obtain ⟨x6, ex6, hf⟩ := nn_e hf
        refine e_iinc (pc := 40) (v := x6) (lv2 := [(2, .int x6), (0, .ref (T + 0)), (1, .int v1)]) C hm dX8_append_40 2 rfl (by rw [ex6]; rfl) (by decide) rfl ?_
        refine e_goto (pc := 43) (tgt := 3) C dX8_append_43 (by decide) ?_
        refine e_lv (lv2 := [(0, .ref (T + 0)), (1, .int v1), (2, .int x6)]) [1, 2, 0] rfl ?_
        exact ih_3 x6 w5 hf
set_option maxHeartbeats 4000000 in
set_option maxRecDepth 100000 in
theorem st_X8_append {G : GG} {l : Launch} {T : Nat} {h : AH} (hI : RI h T) {v1 : Int32} {w : MS} {y : MS} (hf : s_X8_append G v1 w = some y) : Ct G l yX8_append cX8_append 3 none 0 0 0 0 [.ref (T + 0), .int v1] (rh h T w) (none, rh h T y) := by
  refine ct_of (by decide) (Nat.le_of_ble_eq_true rfl) ?_
  intro p e s m args below meth c C hm hr hin
  have C : Cx G cX8_append RX8 p s m args meth c := C
  refine e_lv (lv2 := [(0, .ref (T + 0)), (1, .int v1)]) [0, 1] rfl ?_
  unfold s_X8_append at hf
  refine e_bipush (v := (24 : Int32)) (pc := 0) C dX8_append_0 (by decide) ?_
  refine e_istore_n (pc := 2) (lv2 := [(2, .int (24 : Int32)), (0, .ref (T + 0)), (1, .int v1)]) C hm dX8_append_2 rfl (by decide) rfl ?_
  refine e_lv (lv2 := [(0, .ref (T + 0)), (1, .int v1), (2, .int (24 : Int32))]) [1, 2, 0] rfl ?_
  exact es_X8_append_3 hI C hm hr hin bN (24 : Int32) w hf
theorem dX8_byteAt_0 : decode cX8_byteAt 0 = .ok (.iload_n 1, 1) := by decide +kernel
theorem dX8_byteAt_1 : decode cX8_byteAt 1 = .ok (.ifCond .lt 31, 3) := by decide +kernel
theorem dX8_byteAt_4 : decode cX8_byteAt 4 = .ok (.iload_n 1, 1) := by decide +kernel
theorem dX8_byteAt_5 : decode cX8_byteAt 5 = .ok (.aload_n 0, 1) := by decide +kernel
theorem dX8_byteAt_6 : decode cX8_byteAt 6 = .ok (.getfield 15, 3) := by decide +kernel
theorem dX8_byteAt_9 : decode cX8_byteAt 9 = .ok (.if_icmp .ge 23, 3) := by decide +kernel
theorem dX8_byteAt_12 : decode cX8_byteAt 12 = .ok (.iload_n 1, 1) := by decide +kernel
theorem dX8_byteAt_13 : decode cX8_byteAt 13 = .ok (.sipush 400, 3) := by decide +kernel
theorem dX8_byteAt_16 : decode cX8_byteAt 16 = .ok (.if_icmp .ge 16, 3) := by decide +kernel
theorem dX8_byteAt_19 : decode cX8_byteAt 19 = .ok (.aload_n 0, 1) := by decide +kernel
theorem dX8_byteAt_20 : decode cX8_byteAt 20 = .ok (.getfield 9, 3) := by decide +kernel
theorem dX8_byteAt_23 : decode cX8_byteAt 23 = .ok (.iload_n 1, 1) := by decide +kernel
theorem dX8_byteAt_24 : decode cX8_byteAt 24 = .ok (.baload, 1) := by decide +kernel
theorem dX8_byteAt_25 : decode cX8_byteAt 25 = .ok (.sipush 255, 3) := by decide +kernel
theorem dX8_byteAt_28 : decode cX8_byteAt 28 = .ok (.iand, 1) := by decide +kernel
theorem dX8_byteAt_29 : decode cX8_byteAt 29 = .ok (.goto 6, 3) := by decide +kernel
theorem dX8_byteAt_32 : decode cX8_byteAt 32 = .ok (.sipush 257, 3) := by decide +kernel
theorem dX8_byteAt_35 : decode cX8_byteAt 35 = .ok (.ireturn, 1) := by decide +kernel
def s_X8_byteAt (G : GG) (v1 : Int32) (w : MS) : Option (Int32 × MS) :=
if v1 < 0 then (some ((257 : Int32), w)) else
if (w.1 0 1) ≤ v1 then (some ((257 : Int32), w)) else
if (400 : Int32) ≤ v1 then (some ((257 : Int32), w)) else
ck (ixn 400 v1 = true) <|
some ((w.1 1 v1.toNatClampNeg) &&& (255 : Int32), w)
set_option maxHeartbeats 4000000 in
set_option maxRecDepth 100000 in
theorem st_X8_byteAt {G : GG} {l : Launch} {T : Nat} {h : AH} (hI : RI h T) {v1 : Int32} {w : MS} {y : Int32 × MS} (hf : s_X8_byteAt G v1 w = some y) : Ct G l yX8_byteAt cX8_byteAt 2 (some .int) 0 0 0 0 [.ref (T + 0), .int v1] (rh h T w) (some (.int y.1), rh h T y.2) := by
  refine ct_of (by decide) (Nat.le_of_ble_eq_true rfl) ?_
  intro p e s m args below meth c C hm hr hin
  have C : Cx G cX8_byteAt RX8 p s m args meth c := C
  refine e_lv (lv2 := [(0, .ref (T + 0)), (1, .int v1)]) [0, 1] rfl ?_
  unfold s_X8_byteAt at hf
  refine e_iload_n (pc := 0) C dX8_byteAt_0 1 rfl rfl ?_
  rcases it_e hf with ⟨c1, hf⟩ | ⟨c1, hf⟩
  · refine e_if_lt (pc := 1) (tgt := 32) C dX8_byteAt_1 (by decide) (fun _ => ?_) (fun q => absurd c1 q)
    refine e_sipush (v := (257 : Int32)) (pc := 32) C dX8_byteAt_32 (by decide) ?_
    obtain rfl := so_e hf
    exact e_iret (pc := 35) C hr dX8_byteAt_35 (Nat.le_of_ble_eq_true rfl) (Nat.le_of_ble_eq_true rfl)
  · refine e_if_lt (pc := 1) (tgt := 32) C dX8_byteAt_1 (by decide) (fun q => absurd q c1) (fun _ => ?_)
    refine e_iload_n (pc := 4) C dX8_byteAt_4 1 rfl rfl ?_
    refine e_aload_n (pc := 5) C dX8_byteAt_5 0 rfl rfl ?_
    refine r_geti (pc := 6) 0 8 1 hI C dX8_byteAt_6 (by decide) (by decide) g182 rfl rT0 (by decide) ?_
    rcases it_e hf with ⟨c2, hf⟩ | ⟨c2, hf⟩
    · refine e_icmp_ge (pc := 9) (tgt := 32) C dX8_byteAt_9 (by decide) (fun _ => ?_) (fun q => absurd c2 q)
      refine e_sipush (v := (257 : Int32)) (pc := 32) C dX8_byteAt_32 (by decide) ?_
      obtain rfl := so_e hf
      exact e_iret (pc := 35) C hr dX8_byteAt_35 (Nat.le_of_ble_eq_true rfl) (Nat.le_of_ble_eq_true rfl)
    · refine e_icmp_ge (pc := 9) (tgt := 32) C dX8_byteAt_9 (by decide) (fun q => absurd q c2) (fun _ => ?_)
      refine e_iload_n (pc := 12) C dX8_byteAt_12 1 rfl rfl ?_
      refine e_sipush (v := (400 : Int32)) (pc := 13) C dX8_byteAt_13 (by decide) ?_
      rcases it_e hf with ⟨c3, hf⟩ | ⟨c3, hf⟩
      · refine e_icmp_ge (pc := 16) (tgt := 32) C dX8_byteAt_16 (by decide) (fun _ => ?_) (fun q => absurd c3 q)
        refine e_sipush (v := (257 : Int32)) (pc := 32) C dX8_byteAt_32 (by decide) ?_
        obtain rfl := so_e hf
        exact e_iret (pc := 35) C hr dX8_byteAt_35 (Nat.le_of_ble_eq_true rfl) (Nat.le_of_ble_eq_true rfl)
      · refine e_icmp_ge (pc := 16) (tgt := 32) C dX8_byteAt_16 (by decide) (fun q => absurd q c3) (fun _ => ?_)
        refine e_aload_n (pc := 19) C dX8_byteAt_19 0 rfl rfl ?_
        refine r_getr (pc := 20) 0 8 0 1 hI C dX8_byteAt_20 (by decide) (by decide) g181 rfl rT0 (by decide) ?_
        refine e_iload_n (pc := 23) C dX8_byteAt_23 1 rfl rfl ?_
        obtain ⟨q4, hf⟩ := ck_e hf
        refine r_bald (pc := 24) 1 400 hI C dX8_byteAt_24 rT1 (by decide) (ixn_e q4) ?_
        refine e_sipush (v := (255 : Int32)) (pc := 25) C dX8_byteAt_25 (by decide) ?_
        refine e_iand (pc := 28) C dX8_byteAt_28 ?_
        refine e_goto (pc := 29) (tgt := 35) C dX8_byteAt_29 (by decide) ?_
        obtain rfl := so_e hf
        exact e_iret (pc := 35) C hr dX8_byteAt_35 (Nat.le_of_ble_eq_true rfl) (Nat.le_of_ble_eq_true rfl)
theorem dX8_isDigit_0 : decode cX8_isDigit 0 = .ok (.iload_n 0, 1) := by decide +kernel
theorem dX8_isDigit_1 : decode cX8_isDigit 1 = .ok (.bipush 48, 2) := by decide +kernel
theorem dX8_isDigit_3 : decode cX8_isDigit 3 = .ok (.if_icmp .lt 13, 3) := by decide +kernel
theorem dX8_isDigit_6 : decode cX8_isDigit 6 = .ok (.iload_n 0, 1) := by decide +kernel
theorem dX8_isDigit_7 : decode cX8_isDigit 7 = .ok (.bipush 57, 2) := by decide +kernel
theorem dX8_isDigit_9 : decode cX8_isDigit 9 = .ok (.if_icmp .gt 7, 3) := by decide +kernel
theorem dX8_isDigit_12 : decode cX8_isDigit 12 = .ok (.iconst 1, 1) := by decide +kernel
theorem dX8_isDigit_13 : decode cX8_isDigit 13 = .ok (.goto 4, 3) := by decide +kernel
theorem dX8_isDigit_16 : decode cX8_isDigit 16 = .ok (.iconst 0, 1) := by decide +kernel
theorem dX8_isDigit_17 : decode cX8_isDigit 17 = .ok (.ireturn, 1) := by decide +kernel
def s_X8_isDigit (G : GG) (v0 : Int32) (w : MS) : Option (Int32 × MS) :=
if v0 < (48 : Int32) then (some ((0 : Int32), w)) else
if (57 : Int32) < v0 then (some ((0 : Int32), w)) else
some ((1 : Int32), w)
set_option maxHeartbeats 4000000 in
set_option maxRecDepth 100000 in
theorem st_X8_isDigit {G : GG} {l : Launch} {T : Nat} {h : AH} (hI : RI h T) {v0 : Int32} {w : MS} {y : Int32 × MS} (hf : s_X8_isDigit G v0 w = some y) : Ct G l yX8_isDigit cX8_isDigit 1 (some .boolean) 0 0 0 0 [.int v0] (rh h T w) (some (.int y.1), rh h T y.2) := by
  refine ct_of (by decide) (Nat.le_of_ble_eq_true rfl) ?_
  intro p e s m args below meth c C hm hr hin
  have C : Cx G cX8_isDigit RX8 p s m args meth c := C
  refine e_lv (lv2 := [(0, .int v0)]) [0] rfl ?_
  unfold s_X8_isDigit at hf
  refine e_iload_n (pc := 0) C dX8_isDigit_0 0 rfl rfl ?_
  refine e_bipush (v := (48 : Int32)) (pc := 1) C dX8_isDigit_1 (by decide) ?_
  rcases it_e hf with ⟨c1, hf⟩ | ⟨c1, hf⟩
  · refine e_icmp_lt (pc := 3) (tgt := 16) C dX8_isDigit_3 (by decide) (fun _ => ?_) (fun q => absurd c1 q)
    refine e_iconst (v := (0 : Int32)) (pc := 16) C dX8_isDigit_16 (by decide) ?_
    obtain rfl := so_e hf
    exact e_zret (pc := 17) (v := (0 : Int32)) C hr (nz_ok (by decide)) dX8_isDigit_17 (Nat.le_of_ble_eq_true rfl) (Nat.le_of_ble_eq_true rfl)
  · refine e_icmp_lt (pc := 3) (tgt := 16) C dX8_isDigit_3 (by decide) (fun q => absurd q c1) (fun _ => ?_)
    refine e_iload_n (pc := 6) C dX8_isDigit_6 0 rfl rfl ?_
    refine e_bipush (v := (57 : Int32)) (pc := 7) C dX8_isDigit_7 (by decide) ?_
    rcases it_e hf with ⟨c2, hf⟩ | ⟨c2, hf⟩
    · refine e_icmp_gt (pc := 9) (tgt := 16) C dX8_isDigit_9 (by decide) (fun _ => ?_) (fun q => absurd c2 q)
      refine e_iconst (v := (0 : Int32)) (pc := 16) C dX8_isDigit_16 (by decide) ?_
      obtain rfl := so_e hf
      exact e_zret (pc := 17) (v := (0 : Int32)) C hr (nz_ok (by decide)) dX8_isDigit_17 (Nat.le_of_ble_eq_true rfl) (Nat.le_of_ble_eq_true rfl)
    · refine e_icmp_gt (pc := 9) (tgt := 16) C dX8_isDigit_9 (by decide) (fun q => absurd q c2) (fun _ => ?_)
      refine e_iconst (v := (1 : Int32)) (pc := 12) C dX8_isDigit_12 (by decide) ?_
      refine e_goto (pc := 13) (tgt := 17) C dX8_isDigit_13 (by decide) ?_
      obtain rfl := so_e hf
      exact e_zret (pc := 17) (v := (1 : Int32)) C hr (nz_ok (by decide)) dX8_isDigit_17 (Nat.le_of_ble_eq_true rfl) (Nat.le_of_ble_eq_true rfl)
theorem dX8_put_0 : decode cX8_put 0 = .ok (.aload_n 0, 1) := by decide +kernel
theorem dX8_put_1 : decode cX8_put 1 = .ok (.getfield 29, 3) := by decide +kernel
theorem dX8_put_4 : decode cX8_put 4 = .ok (.sipush 400, 3) := by decide +kernel
theorem dX8_put_7 : decode cX8_put 7 = .ok (.if_icmp .ge 43, 3) := by decide +kernel
theorem dX8_put_10 : decode cX8_put 10 = .ok (.aload_n 0, 1) := by decide +kernel
theorem dX8_put_11 : decode cX8_put 11 = .ok (.dup, 1) := by decide +kernel
theorem dX8_put_12 : decode cX8_put 12 = .ok (.getfield 29, 3) := by decide +kernel
theorem dX8_put_15 : decode cX8_put 15 = .ok (.iconst 1, 1) := by decide +kernel
theorem dX8_put_16 : decode cX8_put 16 = .ok (.iadd, 1) := by decide +kernel
theorem dX8_put_17 : decode cX8_put 17 = .ok (.putfield 29, 3) := by decide +kernel
theorem dX8_put_20 : decode cX8_put 20 = .ok (.aload_n 0, 1) := by decide +kernel
theorem dX8_put_21 : decode cX8_put 21 = .ok (.getfield 19, 3) := by decide +kernel
theorem dX8_put_24 : decode cX8_put 24 = .ok (.aload_n 0, 1) := by decide +kernel
theorem dX8_put_25 : decode cX8_put 25 = .ok (.getfield 29, 3) := by decide +kernel
theorem dX8_put_28 : decode cX8_put 28 = .ok (.iload_n 1, 1) := by decide +kernel
theorem dX8_put_29 : decode cX8_put 29 = .ok (.iastore, 1) := by decide +kernel
theorem dX8_put_30 : decode cX8_put 30 = .ok (.aload_n 0, 1) := by decide +kernel
theorem dX8_put_31 : decode cX8_put 31 = .ok (.getfield 23, 3) := by decide +kernel
theorem dX8_put_34 : decode cX8_put 34 = .ok (.aload_n 0, 1) := by decide +kernel
theorem dX8_put_35 : decode cX8_put 35 = .ok (.getfield 29, 3) := by decide +kernel
theorem dX8_put_38 : decode cX8_put 38 = .ok (.iload_n 2, 1) := by decide +kernel
theorem dX8_put_39 : decode cX8_put 39 = .ok (.iastore, 1) := by decide +kernel
theorem dX8_put_40 : decode cX8_put 40 = .ok (.aload_n 0, 1) := by decide +kernel
theorem dX8_put_41 : decode cX8_put 41 = .ok (.getfield 26, 3) := by decide +kernel
theorem dX8_put_44 : decode cX8_put 44 = .ok (.aload_n 0, 1) := by decide +kernel
theorem dX8_put_45 : decode cX8_put 45 = .ok (.getfield 29, 3) := by decide +kernel
theorem dX8_put_48 : decode cX8_put 48 = .ok (.iconst 0, 1) := by decide +kernel
theorem dX8_put_49 : decode cX8_put 49 = .ok (.iastore, 1) := by decide +kernel
theorem dX8_put_50 : decode cX8_put 50 = .ok (.return_, 1) := by decide +kernel
def s_X8_put (G : GG) (v1 : Int32) (v2 : Int32) (w : MS) : Option (MS) :=
if (400 : Int32) ≤ (w.1 0 5) then (some w) else
nn (w_si w 0 5 ((w.1 0 5) + (1 : Int32))) fun w2 =>
ck (ixn 401 (w2.1 0 5) = true) <|
nn (w_si w2 2 (w2.1 0 5).toNatClampNeg v1) fun w4 =>
ck (ixn 401 (w4.1 0 5) = true) <|
nn (w_si w4 3 (w4.1 0 5).toNatClampNeg v2) fun w6 =>
ck (ixn 401 (w6.1 0 5) = true) <|
nn (w_si w6 4 (w6.1 0 5).toNatClampNeg (0 : Int32)) fun w8 =>
some w8
set_option maxHeartbeats 4000000 in
set_option maxRecDepth 100000 in
theorem st_X8_put {G : GG} {l : Launch} {T : Nat} {h : AH} (hI : RI h T) {v1 : Int32} {v2 : Int32} {w : MS} {y : MS} (hf : s_X8_put G v1 v2 w = some y) : Ct G l yX8_put cX8_put 3 none 0 0 0 0 [.ref (T + 0), .int v1, .int v2] (rh h T w) (none, rh h T y) := by
  refine ct_of (by decide) (Nat.le_of_ble_eq_true rfl) ?_
  intro p e s m args below meth c C hm hr hin
  have C : Cx G cX8_put RX8 p s m args meth c := C
  refine e_lv (lv2 := [(0, .ref (T + 0)), (1, .int v1), (2, .int v2)]) [0, 1, 2] rfl ?_
  unfold s_X8_put at hf
  refine e_aload_n (pc := 0) C dX8_put_0 0 rfl rfl ?_
  refine r_geti (pc := 1) 0 8 5 hI C dX8_put_1 (by decide) (by decide) g187 rfl rT0 (by decide) ?_
  refine e_sipush (v := (400 : Int32)) (pc := 4) C dX8_put_4 (by decide) ?_
  rcases it_e hf with ⟨c1, hf⟩ | ⟨c1, hf⟩
  · refine e_icmp_ge (pc := 7) (tgt := 50) C dX8_put_7 (by decide) (fun _ => ?_) (fun q => absurd c1 q)
    obtain rfl := so_e hf
    exact e_vret (pc := 50) C hr dX8_put_50 (Nat.le_of_ble_eq_true rfl) (Nat.le_of_ble_eq_true rfl)
  · refine e_icmp_ge (pc := 7) (tgt := 50) C dX8_put_7 (by decide) (fun q => absurd q c1) (fun _ => ?_)
    refine e_aload_n (pc := 10) C dX8_put_10 0 rfl rfl ?_
    refine e_dup (pc := 11) C dX8_put_11 rfl ?_
    refine r_geti (pc := 12) 0 8 5 hI C dX8_put_12 (by decide) (by decide) g187 rfl rT0 (by decide) ?_
    refine e_iconst (v := (1 : Int32)) (pc := 15) C dX8_put_15 (by decide) ?_
    refine e_iadd (pc := 16) C dX8_put_16 ?_
    refine r_puti (pc := 17) 0 8 5 hI C dX8_put_17 (by decide) (by decide) g187 rfl rfl rfl rfl rT0 (by decide) ?_
    obtain ⟨w2, ew2, hf⟩ := nn_e hf
    refine r_hp ew2 ?_
    refine e_aload_n (pc := 20) C dX8_put_20 0 rfl rfl ?_
    refine r_getr (pc := 21) 0 8 2 2 hI C dX8_put_21 (by decide) (by decide) g184 rfl rT0 (by decide) ?_
    refine e_aload_n (pc := 24) C dX8_put_24 0 rfl rfl ?_
    refine r_geti (pc := 25) 0 8 5 hI C dX8_put_25 (by decide) (by decide) g187 rfl rT0 (by decide) ?_
    refine e_iload_n (pc := 28) C dX8_put_28 1 rfl rfl ?_
    obtain ⟨q3, hf⟩ := ck_e hf
    refine r_iast (pc := 29) 2 401 hI C dX8_put_29 rT2 (by decide) (ixn_e q3) ?_
    obtain ⟨w4, ew4, hf⟩ := nn_e hf
    refine r_hp ew4 ?_
    refine e_aload_n (pc := 30) C dX8_put_30 0 rfl rfl ?_
    refine r_getr (pc := 31) 0 8 3 3 hI C dX8_put_31 (by decide) (by decide) g185 rfl rT0 (by decide) ?_
    refine e_aload_n (pc := 34) C dX8_put_34 0 rfl rfl ?_
    refine r_geti (pc := 35) 0 8 5 hI C dX8_put_35 (by decide) (by decide) g187 rfl rT0 (by decide) ?_
    refine e_iload_n (pc := 38) C dX8_put_38 2 rfl rfl ?_
    obtain ⟨q5, hf⟩ := ck_e hf
    refine r_iast (pc := 39) 3 401 hI C dX8_put_39 rT3 (by decide) (ixn_e q5) ?_
    obtain ⟨w6, ew6, hf⟩ := nn_e hf
    refine r_hp ew6 ?_
    refine e_aload_n (pc := 40) C dX8_put_40 0 rfl rfl ?_
    refine r_getr (pc := 41) 0 8 4 4 hI C dX8_put_41 (by decide) (by decide) g186 rfl rT0 (by decide) ?_
    refine e_aload_n (pc := 44) C dX8_put_44 0 rfl rfl ?_
    refine r_geti (pc := 45) 0 8 5 hI C dX8_put_45 (by decide) (by decide) g187 rfl rT0 (by decide) ?_
    refine e_iconst (v := (0 : Int32)) (pc := 48) C dX8_put_48 (by decide) ?_
    obtain ⟨q7, hf⟩ := ck_e hf
    refine r_iast (pc := 49) 4 401 hI C dX8_put_49 rT4 (by decide) (ixn_e q7) ?_
    obtain ⟨w8, ew8, hf⟩ := nn_e hf
    refine r_hp ew8 ?_
    obtain rfl := so_e hf
    exact e_vret (pc := 50) C hr dX8_put_50 (Nat.le_of_ble_eq_true rfl) (Nat.le_of_ble_eq_true rfl)
theorem dX8_isLetter_0 : decode cX8_isLetter 0 = .ok (.iload_n 0, 1) := by decide +kernel
theorem dX8_isLetter_1 : decode cX8_isLetter 1 = .ok (.bipush 97, 2) := by decide +kernel
theorem dX8_isLetter_3 : decode cX8_isLetter 3 = .ok (.if_icmp .lt 13, 3) := by decide +kernel
theorem dX8_isLetter_6 : decode cX8_isLetter 6 = .ok (.iload_n 0, 1) := by decide +kernel
theorem dX8_isLetter_7 : decode cX8_isLetter 7 = .ok (.bipush 122, 2) := by decide +kernel
theorem dX8_isLetter_9 : decode cX8_isLetter 9 = .ok (.if_icmp .gt 7, 3) := by decide +kernel
theorem dX8_isLetter_12 : decode cX8_isLetter 12 = .ok (.iconst 1, 1) := by decide +kernel
theorem dX8_isLetter_13 : decode cX8_isLetter 13 = .ok (.goto 4, 3) := by decide +kernel
theorem dX8_isLetter_16 : decode cX8_isLetter 16 = .ok (.iconst 0, 1) := by decide +kernel
theorem dX8_isLetter_17 : decode cX8_isLetter 17 = .ok (.ireturn, 1) := by decide +kernel
def s_X8_isLetter (G : GG) (v0 : Int32) (w : MS) : Option (Int32 × MS) :=
if v0 < (97 : Int32) then (some ((0 : Int32), w)) else
if (122 : Int32) < v0 then (some ((0 : Int32), w)) else
some ((1 : Int32), w)
set_option maxHeartbeats 4000000 in
set_option maxRecDepth 100000 in
theorem st_X8_isLetter {G : GG} {l : Launch} {T : Nat} {h : AH} (hI : RI h T) {v0 : Int32} {w : MS} {y : Int32 × MS} (hf : s_X8_isLetter G v0 w = some y) : Ct G l yX8_isLetter cX8_isLetter 1 (some .boolean) 0 0 0 0 [.int v0] (rh h T w) (some (.int y.1), rh h T y.2) := by
  refine ct_of (by decide) (Nat.le_of_ble_eq_true rfl) ?_
  intro p e s m args below meth c C hm hr hin
  have C : Cx G cX8_isLetter RX8 p s m args meth c := C
  refine e_lv (lv2 := [(0, .int v0)]) [0] rfl ?_
  unfold s_X8_isLetter at hf
  refine e_iload_n (pc := 0) C dX8_isLetter_0 0 rfl rfl ?_
  refine e_bipush (v := (97 : Int32)) (pc := 1) C dX8_isLetter_1 (by decide) ?_
  rcases it_e hf with ⟨c1, hf⟩ | ⟨c1, hf⟩
  · refine e_icmp_lt (pc := 3) (tgt := 16) C dX8_isLetter_3 (by decide) (fun _ => ?_) (fun q => absurd c1 q)
    refine e_iconst (v := (0 : Int32)) (pc := 16) C dX8_isLetter_16 (by decide) ?_
    obtain rfl := so_e hf
    exact e_zret (pc := 17) (v := (0 : Int32)) C hr (nz_ok (by decide)) dX8_isLetter_17 (Nat.le_of_ble_eq_true rfl) (Nat.le_of_ble_eq_true rfl)
  · refine e_icmp_lt (pc := 3) (tgt := 16) C dX8_isLetter_3 (by decide) (fun q => absurd q c1) (fun _ => ?_)
    refine e_iload_n (pc := 6) C dX8_isLetter_6 0 rfl rfl ?_
    refine e_bipush (v := (122 : Int32)) (pc := 7) C dX8_isLetter_7 (by decide) ?_
    rcases it_e hf with ⟨c2, hf⟩ | ⟨c2, hf⟩
    · refine e_icmp_gt (pc := 9) (tgt := 16) C dX8_isLetter_9 (by decide) (fun _ => ?_) (fun q => absurd c2 q)
      refine e_iconst (v := (0 : Int32)) (pc := 16) C dX8_isLetter_16 (by decide) ?_
      obtain rfl := so_e hf
      exact e_zret (pc := 17) (v := (0 : Int32)) C hr (nz_ok (by decide)) dX8_isLetter_17 (Nat.le_of_ble_eq_true rfl) (Nat.le_of_ble_eq_true rfl)
    · refine e_icmp_gt (pc := 9) (tgt := 16) C dX8_isLetter_9 (by decide) (fun q => absurd q c2) (fun _ => ?_)
      refine e_iconst (v := (1 : Int32)) (pc := 12) C dX8_isLetter_12 (by decide) ?_
      refine e_goto (pc := 13) (tgt := 17) C dX8_isLetter_13 (by decide) ?_
      obtain rfl := so_e hf
      exact e_zret (pc := 17) (v := (1 : Int32)) C hr (nz_ok (by decide)) dX8_isLetter_17 (Nat.le_of_ble_eq_true rfl) (Nat.le_of_ble_eq_true rfl)
theorem dX8_isColumn_0 : decode cX8_isColumn 0 = .ok (.iload 4, 2) := by decide +kernel
theorem dX8_isColumn_2 : decode cX8_isColumn 2 = .ok (.iload_n 3, 1) := by decide +kernel
theorem dX8_isColumn_3 : decode cX8_isColumn 3 = .ok (.isub, 1) := by decide +kernel
theorem dX8_isColumn_4 : decode cX8_isColumn 4 = .ok (.bipush 6, 2) := by decide +kernel
theorem dX8_isColumn_6 : decode cX8_isColumn 6 = .ok (.if_icmp .le 5, 3) := by decide +kernel
theorem dX8_isColumn_9 : decode cX8_isColumn 9 = .ok (.iconst 0, 1) := by decide +kernel
theorem dX8_isColumn_10 : decode cX8_isColumn 10 = .ok (.ireturn, 1) := by decide +kernel
theorem dX8_isColumn_11 : decode cX8_isColumn 11 = .ok (.iconst 0, 1) := by decide +kernel
theorem dX8_isColumn_12 : decode cX8_isColumn 12 = .ok (.istore 5, 2) := by decide +kernel
theorem dX8_isColumn_14 : decode cX8_isColumn 14 = .ok (.iload 5, 2) := by decide +kernel
theorem dX8_isColumn_16 : decode cX8_isColumn 16 = .ok (.bipush 6, 2) := by decide +kernel
theorem dX8_isColumn_18 : decode cX8_isColumn 18 = .ok (.if_icmp .ge 48, 3) := by decide +kernel
theorem dX8_isColumn_21 : decode cX8_isColumn 21 = .ok (.iload_n 3, 1) := by decide +kernel
theorem dX8_isColumn_22 : decode cX8_isColumn 22 = .ok (.iload 5, 2) := by decide +kernel
theorem dX8_isColumn_24 : decode cX8_isColumn 24 = .ok (.iadd, 1) := by decide +kernel
theorem dX8_isColumn_25 : decode cX8_isColumn 25 = .ok (.iload 4, 2) := by decide +kernel
theorem dX8_isColumn_27 : decode cX8_isColumn 27 = .ok (.if_icmp .ge 14, 3) := by decide +kernel
theorem dX8_isColumn_30 : decode cX8_isColumn 30 = .ok (.aload_n 0, 1) := by decide +kernel
theorem dX8_isColumn_31 : decode cX8_isColumn 31 = .ok (.iload_n 3, 1) := by decide +kernel
theorem dX8_isColumn_32 : decode cX8_isColumn 32 = .ok (.iload 5, 2) := by decide +kernel
theorem dX8_isColumn_34 : decode cX8_isColumn 34 = .ok (.iadd, 1) := by decide +kernel
theorem dX8_isColumn_35 : decode cX8_isColumn 35 = .ok (.invokevirtual 59, 3) := by decide +kernel
theorem dX8_isColumn_38 : decode cX8_isColumn 38 = .ok (.goto 5, 3) := by decide +kernel
theorem dX8_isColumn_41 : decode cX8_isColumn 41 = .ok (.bipush 32, 2) := by decide +kernel
theorem dX8_isColumn_43 : decode cX8_isColumn 43 = .ok (.istore 6, 2) := by decide +kernel
theorem dX8_isColumn_45 : decode cX8_isColumn 45 = .ok (.aload_n 1, 1) := by decide +kernel
theorem dX8_isColumn_46 : decode cX8_isColumn 46 = .ok (.iload_n 2, 1) := by decide +kernel
theorem dX8_isColumn_47 : decode cX8_isColumn 47 = .ok (.iload 5, 2) := by decide +kernel
theorem dX8_isColumn_49 : decode cX8_isColumn 49 = .ok (.iadd, 1) := by decide +kernel
theorem dX8_isColumn_50 : decode cX8_isColumn 50 = .ok (.invokevirtual 83, 3) := by decide +kernel
theorem dX8_isColumn_53 : decode cX8_isColumn 53 = .ok (.iload 6, 2) := by decide +kernel
theorem dX8_isColumn_55 : decode cX8_isColumn 55 = .ok (.if_icmp .eq 5, 3) := by decide +kernel
theorem dX8_isColumn_58 : decode cX8_isColumn 58 = .ok (.iconst 0, 1) := by decide +kernel
theorem dX8_isColumn_59 : decode cX8_isColumn 59 = .ok (.ireturn, 1) := by decide +kernel
theorem dX8_isColumn_60 : decode cX8_isColumn 60 = .ok (.iinc 5 1, 3) := by decide +kernel
theorem dX8_isColumn_63 : decode cX8_isColumn 63 = .ok (.goto (-49), 3) := by decide +kernel
theorem dX8_isColumn_66 : decode cX8_isColumn 66 = .ok (.iconst 1, 1) := by decide +kernel
theorem dX8_isColumn_67 : decode cX8_isColumn 67 = .ok (.ireturn, 1) := by decide +kernel
def S_X8_isColumn_14 (G : GG) (v1 : Nat) (v2 : Int32) (v3 : Int32) (v4 : Int32) (self_14 : Int32 → MS → Option (Int32 × MS)) (v5 : Int32) (w : MS) : Option (Int32 × MS) :=
if (6 : Int32) ≤ v5 then (some ((1 : Int32), w)) else
nn (fun (s0_43 : Int32) (h_43 : MS) => (cw (p_J0_charAt_5068e G v1 (v2 + v5) h_43) fun r5 w3 =>
if r5 = s0_43 then (nn (v5 + (1 : Int32)) fun x7 =>
self_14 x7 w3) else
some ((0 : Int32), w3))) fun j_43 =>
if v4 ≤ (v3 + v5) then (j_43 (32 : Int32) w) else
cw (s_X8_byteAt G (v3 + v5) w) fun r11 w9 =>
j_43 r11 w9
def s_X8_isColumn (G : GG) (v1 : Nat) (v2 : Int32) (v3 : Int32) (v4 : Int32) (w : MS) : Option (Int32 × MS) :=
if (v4 - v3) ≤ (6 : Int32) then (lw1 (S_X8_isColumn_14 G v1 v2 v3 v4 ) bN (0 : Int32) w) else
some ((0 : Int32), w)
set_option maxHeartbeats 4000000 in
set_option maxRecDepth 100000 in
theorem es_X8_isColumn_14 {G : GG} {p : Program} {l : Launch} {e : Env} {s : State} {m : MethodId} {args : Array Value} {below : List Frame} {meth : Method} {c : Code} {y : Int32 × MS} {T : Nat} {h : AH} (hI : RI h T) (C : Cx G cX8_isColumn RX8 p s m args meth c) (hm : c.maxLocals = 7) (hr : meth.sig.returnType = (some .boolean)) (hin : meth.name = yX8_isColumn.name) {v1 : Nat} {v2 : Int32} {v3 : Int32} {v4 : Int32}  :
    ∀ (n : Nat) (v5 : Int32) (w : MS), lw1 (S_X8_isColumn_14 G v1 v2 v3 v4) n v5 w = some y → EE G p l e ({ frames := 4, cells := 0, slots := 0, locals := 85 } : Room) s m args below meth c (some (.int y.1), rh h T y.2) 0 0 14 [(0, .ref (T + 0)), (1, .ref v1), (2, .int v2), (3, .int v3), (4, .int v4), (5, .int v5)] [] (rh h T w) 0 0 := by
  intro n
  induction n with
  | zero => intro v5 w hf; exact (no_e hf).elim
  | succ n ih_14 =>
    intro v5 w hf
    have hf : S_X8_isColumn_14 G v1 v2 v3 v4 (lw1 (S_X8_isColumn_14 G v1 v2 v3 v4) n) v5 w = some y := hf
    generalize lw1 (S_X8_isColumn_14 G v1 v2 v3 v4) n = self_14 at hf ih_14
    unfold S_X8_isColumn_14 at hf
    refine e_iload (pc := 14) C dX8_isColumn_14 5 rfl ?_
    refine e_bipush (v := (6 : Int32)) (pc := 16) C dX8_isColumn_16 (by decide) ?_
    rcases it_e hf with ⟨c2, hf⟩ | ⟨c2, hf⟩
    · refine e_icmp_ge (pc := 18) (tgt := 66) C dX8_isColumn_18 (by decide) (fun _ => ?_) (fun q => absurd c2 q)
      refine e_iconst (v := (1 : Int32)) (pc := 66) C dX8_isColumn_66 (by decide) ?_
      obtain rfl := so_e hf
      exact e_zret (pc := 67) (v := (1 : Int32)) C hr (nz_ok (by decide)) dX8_isColumn_67 (Nat.le_of_ble_eq_true rfl) (Nat.le_of_ble_eq_true rfl)
    · refine e_icmp_ge (pc := 18) (tgt := 66) C dX8_isColumn_18 (by decide) (fun q => absurd q c2) (fun _ => ?_)
      refine e_iload_n (pc := 21) C dX8_isColumn_21 3 rfl rfl ?_
      refine e_iload (pc := 22) C dX8_isColumn_22 5 rfl ?_
      refine e_iadd (pc := 24) C dX8_isColumn_24 ?_
      refine e_iload (pc := 25) C dX8_isColumn_25 4 rfl ?_
      obtain ⟨j_43, ej_43, hf⟩ := nn_e hf
      have W_43 : ∀ (s0_43 : Int32) (h_43 : MS), j_43 s0_43 h_43 = some y → EE G p l e ({ frames := 4, cells := 0, slots := 0, locals := 85 } : Room) s m args below meth c (some (.int y.1), rh h T y.2) 0 0 43 [(0, .ref (T + 0)), (1, .ref v1), (2, .int v2), (3, .int v3), (4, .int v4), (5, .int v5)] [.int s0_43] (rh h T h_43) 0 0 := by
        intro s0_43 h_43 hf
        rw [ej_43] at hf
        refine e_istore (pc := 43) (lv2 := [(6, .int s0_43), (0, .ref (T + 0)), (1, .ref v1), (2, .int v2), (3, .int v3), (4, .int v4), (5, .int v5)]) C hm dX8_isColumn_43 (by decide) rfl ?_
        refine e_aload_n (pc := 45) C dX8_isColumn_45 2 rfl rfl ?_
        refine e_iload_n (pc := 46) C dX8_isColumn_46 3 rfl rfl ?_
        refine e_iload (pc := 47) C dX8_isColumn_47 6 rfl ?_
        refine e_iadd (pc := 49) C dX8_isColumn_49 ?_
        obtain ⟨r5, w3, y4, hf⟩ := cw_e hf
        refine e_callK (pc := 50) (st := []) (sq_J0_charAt_5068e (pr_J0_charAt_5068e (rh h T) y4)) C (ct_J0_charAt_5068e (pr_J0_charAt_5068e (rh h T) y4)) dX8_isColumn_50 g676 g677 g678 g158 g679 hd_J0_charAt_5068e rfl ⟨Nat.le_of_ble_eq_true rfl, Nat.le_of_ble_eq_true rfl⟩ ⟨Nat.le_of_ble_eq_true rfl, Nat.le_of_ble_eq_true rfl⟩ rfl (Nat.le_of_ble_eq_true rfl) ?_
        refine e_iload (pc := 53) C dX8_isColumn_53 0 rfl ?_
        rcases it_e hf with ⟨c6, hf⟩ | ⟨c6, hf⟩
        · refine e_icmp_eq (pc := 55) (tgt := 60) C dX8_isColumn_55 (by decide) (fun _ => ?_) (fun q => absurd c6 q)
          obtain ⟨x7, ex7, hf⟩ := nn_e hf
          refine e_iinc (pc := 60) (v := x7) (lv2 := [(5, .int x7), (6, .int s0_43), (0, .ref (T + 0)), (1, .ref v1), (2, .int v2), (3, .int v3), (4, .int v4)]) C hm dX8_isColumn_60 6 rfl (by rw [ex7]; rfl) (by decide) rfl ?_
          refine e_goto (pc := 63) (tgt := 14) C dX8_isColumn_63 (by decide) ?_
          refine e_lv (lv2 := [(0, .ref (T + 0)), (1, .ref v1), (2, .int v2), (3, .int v3), (4, .int v4), (5, .int x7)]) [2, 3, 4, 5, 6, 0] rfl ?_
          exact ih_14 x7 w3 hf
        · refine e_icmp_eq (pc := 55) (tgt := 60) C dX8_isColumn_55 (by decide) (fun q => absurd q c6) (fun _ => ?_)
          refine e_iconst (v := (0 : Int32)) (pc := 58) C dX8_isColumn_58 (by decide) ?_
          obtain rfl := so_e hf
          exact e_zret (pc := 59) (v := (0 : Int32)) C hr (nz_ok (by decide)) dX8_isColumn_59 (Nat.le_of_ble_eq_true rfl) (Nat.le_of_ble_eq_true rfl)
      rcases it_e hf with ⟨c8, hf⟩ | ⟨c8, hf⟩
      · refine e_icmp_ge (pc := 27) (tgt := 41) C dX8_isColumn_27 (by decide) (fun _ => ?_) (fun q => absurd c8 q)
        refine e_bipush (v := (32 : Int32)) (pc := 41) C dX8_isColumn_41 (by decide) ?_
        exact W_43 (32 : Int32) w hf
      · refine e_icmp_ge (pc := 27) (tgt := 41) C dX8_isColumn_27 (by decide) (fun q => absurd q c8) (fun _ => ?_)
        refine e_aload_n (pc := 30) C dX8_isColumn_30 0 rfl rfl ?_
        refine e_iload_n (pc := 31) C dX8_isColumn_31 3 rfl rfl ?_
        refine e_iload (pc := 32) C dX8_isColumn_32 5 rfl ?_
        refine e_iadd (pc := 34) C dX8_isColumn_34 ?_
        obtain ⟨r11, w9, y10, hf⟩ := cw_e hf
        refine e_callVi (pc := 35) (st := []) 8 C (st_X8_byteAt hI y10) dX8_isColumn_35 (by decide) (hI.1 _ rT0) g644 g646 g1 g147 g647 hd_X8_byteAt rfl ⟨Nat.le_of_ble_eq_true rfl, Nat.le_of_ble_eq_true rfl⟩ ⟨Nat.le_of_ble_eq_true rfl, Nat.le_of_ble_eq_true rfl⟩ rfl (Nat.le_of_ble_eq_true rfl) ?_
        refine e_goto (pc := 38) (tgt := 43) C dX8_isColumn_38 (by decide) ?_
        exact W_43 r11 w9 hf
set_option maxHeartbeats 4000000 in
set_option maxRecDepth 100000 in
theorem st_X8_isColumn {G : GG} {l : Launch} {T : Nat} {h : AH} (hI : RI h T) {v1 : Nat} {v2 : Int32} {v3 : Int32} {v4 : Int32} {w : MS} {y : Int32 × MS} (hf : s_X8_isColumn G v1 v2 v3 v4 w = some y) : Ct G l yX8_isColumn cX8_isColumn 7 (some .boolean) 4 85 0 0 [.ref (T + 0), .ref v1, .int v2, .int v3, .int v4] (rh h T w) (some (.int y.1), rh h T y.2) := by
  refine ct_of (by decide) (Nat.le_of_ble_eq_true rfl) ?_
  intro p e s m args below meth c C hm hr hin
  have C : Cx G cX8_isColumn RX8 p s m args meth c := C
  refine e_lv (lv2 := [(0, .ref (T + 0)), (1, .ref v1), (2, .int v2), (3, .int v3), (4, .int v4)]) [0, 1, 2, 3, 4] rfl ?_
  unfold s_X8_isColumn at hf
  refine e_iload (pc := 0) C dX8_isColumn_0 4 rfl ?_
  refine e_iload_n (pc := 2) C dX8_isColumn_2 3 rfl rfl ?_
  refine e_isub (pc := 3) C dX8_isColumn_3 ?_
  refine e_bipush (v := (6 : Int32)) (pc := 4) C dX8_isColumn_4 (by decide) ?_
  rcases it_e hf with ⟨c1, hf⟩ | ⟨c1, hf⟩
  · refine e_icmp_le (pc := 6) (tgt := 11) C dX8_isColumn_6 (by decide) (fun _ => ?_) (fun q => absurd c1 q)
    refine e_iconst (v := (0 : Int32)) (pc := 11) C dX8_isColumn_11 (by decide) ?_
    refine e_istore (pc := 12) (lv2 := [(5, .int (0 : Int32)), (0, .ref (T + 0)), (1, .ref v1), (2, .int v2), (3, .int v3), (4, .int v4)]) C hm dX8_isColumn_12 (by decide) rfl ?_
    refine e_lv (lv2 := [(0, .ref (T + 0)), (1, .ref v1), (2, .int v2), (3, .int v3), (4, .int v4), (5, .int (0 : Int32))]) [1, 2, 3, 4, 5, 0] rfl ?_
    exact es_X8_isColumn_14 hI C hm hr hin bN (0 : Int32) w hf
  · refine e_icmp_le (pc := 6) (tgt := 11) C dX8_isColumn_6 (by decide) (fun q => absurd q c1) (fun _ => ?_)
    refine e_iconst (v := (0 : Int32)) (pc := 9) C dX8_isColumn_9 (by decide) ?_
    obtain rfl := so_e hf
    exact e_zret (pc := 10) (v := (0 : Int32)) C hr (nz_ok (by decide)) dX8_isColumn_10 (Nat.le_of_ble_eq_true rfl) (Nat.le_of_ble_eq_true rfl)
theorem dX8_wordIn_0 : decode cX8_wordIn 0 = .ok (.iconst 0, 1) := by decide +kernel
theorem dX8_wordIn_1 : decode cX8_wordIn 1 = .ok (.istore 4, 2) := by decide +kernel
theorem dX8_wordIn_3 : decode cX8_wordIn 3 = .ok (.iload 4, 2) := by decide +kernel
theorem dX8_wordIn_5 : decode cX8_wordIn 5 = .ok (.bipush 6, 2) := by decide +kernel
theorem dX8_wordIn_7 : decode cX8_wordIn 7 = .ok (.iadd, 1) := by decide +kernel
theorem dX8_wordIn_8 : decode cX8_wordIn 8 = .ok (.aload_n 1, 1) := by decide +kernel
theorem dX8_wordIn_9 : decode cX8_wordIn 9 = .ok (.invokevirtual 74, 3) := by decide +kernel
theorem dX8_wordIn_12 : decode cX8_wordIn 12 = .ok (.if_icmp .gt 31, 3) := by decide +kernel
theorem dX8_wordIn_15 : decode cX8_wordIn 15 = .ok (.aload_n 0, 1) := by decide +kernel
theorem dX8_wordIn_16 : decode cX8_wordIn 16 = .ok (.aload_n 1, 1) := by decide +kernel
theorem dX8_wordIn_17 : decode cX8_wordIn 17 = .ok (.iload 4, 2) := by decide +kernel
theorem dX8_wordIn_19 : decode cX8_wordIn 19 = .ok (.iload_n 2, 1) := by decide +kernel
theorem dX8_wordIn_20 : decode cX8_wordIn 20 = .ok (.iload_n 3, 1) := by decide +kernel
theorem dX8_wordIn_21 : decode cX8_wordIn 21 = .ok (.invokevirtual 79, 3) := by decide +kernel
theorem dX8_wordIn_24 : decode cX8_wordIn 24 = .ok (.ifCond .eq 13, 3) := by decide +kernel
theorem dX8_wordIn_27 : decode cX8_wordIn 27 = .ok (.sipush 300, 3) := by decide +kernel
theorem dX8_wordIn_30 : decode cX8_wordIn 30 = .ok (.iload 4, 2) := by decide +kernel
theorem dX8_wordIn_32 : decode cX8_wordIn 32 = .ok (.bipush 6, 2) := by decide +kernel
theorem dX8_wordIn_34 : decode cX8_wordIn 34 = .ok (.idiv, 1) := by decide +kernel
theorem dX8_wordIn_35 : decode cX8_wordIn 35 = .ok (.iadd, 1) := by decide +kernel
theorem dX8_wordIn_36 : decode cX8_wordIn 36 = .ok (.ireturn, 1) := by decide +kernel
theorem dX8_wordIn_37 : decode cX8_wordIn 37 = .ok (.iinc 4 6, 3) := by decide +kernel
theorem dX8_wordIn_40 : decode cX8_wordIn 40 = .ok (.goto (-37), 3) := by decide +kernel
theorem dX8_wordIn_43 : decode cX8_wordIn 43 = .ok (.sipush 258, 3) := by decide +kernel
theorem dX8_wordIn_46 : decode cX8_wordIn 46 = .ok (.ireturn, 1) := by decide +kernel
def S_X8_wordIn_3 (G : GG) (v1 : Nat) (v2 : Int32) (v3 : Int32) (K_27 : Int32 → MS → Option (Int32 × MS)) (self_3 : Int32 → MS → Option (Int32 × MS)) (v4 : Int32) (w : MS) : Option (Int32 × MS) :=
cw (p_J0_length_8abf5 G v1 w) fun r3 w1 =>
if r3 < (v4 + (6 : Int32)) then (some ((258 : Int32), w1)) else
cw (s_X8_isColumn G v1 v4 v2 v3 w1) fun r7 w5 =>
if r7 = 0 then (nn (v4 + (6 : Int32)) fun x9 =>
self_3 x9 w5) else
K_27 v4 w5
def s_X8_wordIn (G : GG) (v1 : Nat) (v2 : Int32) (v3 : Int32) (w : MS) : Option (Int32 × MS) :=
lw1 (S_X8_wordIn_3 G v1 v2 v3 (fun (v4_27 : Int32) (h_27 : MS) => (some ((300 : Int32) + (v4_27 / (6 : Int32)), h_27)))) bN (0 : Int32) w
set_option maxHeartbeats 4000000 in
set_option maxRecDepth 100000 in
theorem es_X8_wordIn_3 {G : GG} {p : Program} {l : Launch} {e : Env} {s : State} {m : MethodId} {args : Array Value} {below : List Frame} {meth : Method} {c : Code} {y : Int32 × MS} {T : Nat} {h : AH} (hI : RI h T) (C : Cx G cX8_wordIn RX8 p s m args meth c) (hm : c.maxLocals = 5) (hr : meth.sig.returnType = (some .int)) (hin : meth.name = yX8_wordIn.name) {v1 : Nat} {v2 : Int32} {v3 : Int32} {K_27 : Int32 → MS → Option (Int32 × MS)} (hK_27 : ∀ (u4 : Int32) (w : MS), K_27 u4 w = some y → EE G p l e ({ frames := 5, cells := 0, slots := 0, locals := 111 } : Room) s m args below meth c (some (.int y.1), rh h T y.2) 0 0 27 [(4, .int u4)] [] (rh h T w) 0 0) :
    ∀ (n : Nat) (v4 : Int32) (w : MS), lw1 (S_X8_wordIn_3 G v1 v2 v3 K_27) n v4 w = some y → EE G p l e ({ frames := 5, cells := 0, slots := 0, locals := 111 } : Room) s m args below meth c (some (.int y.1), rh h T y.2) 0 0 3 [(0, .ref (T + 0)), (1, .ref v1), (2, .int v2), (3, .int v3), (4, .int v4)] [] (rh h T w) 0 0 := by
  intro n
  induction n with
  | zero => intro v4 w hf; exact (no_e hf).elim
  | succ n ih_3 =>
    intro v4 w hf
    have hf : S_X8_wordIn_3 G v1 v2 v3 K_27 (lw1 (S_X8_wordIn_3 G v1 v2 v3 K_27) n) v4 w = some y := hf
    generalize lw1 (S_X8_wordIn_3 G v1 v2 v3 K_27) n = self_3 at hf ih_3
    unfold S_X8_wordIn_3 at hf
    refine e_iload (pc := 3) C dX8_wordIn_3 4 rfl ?_
    refine e_bipush (v := (6 : Int32)) (pc := 5) C dX8_wordIn_5 (by decide) ?_
    refine e_iadd (pc := 7) C dX8_wordIn_7 ?_
    refine e_aload_n (pc := 8) C dX8_wordIn_8 1 rfl rfl ?_
    obtain ⟨r3, w1, y2, hf⟩ := cw_e hf
    refine e_callK (pc := 9) (st := [.int (v4 + (6 : Int32))]) (sq_J0_length_8abf5 (pr_J0_length_8abf5 (rh h T) y2)) C (ct_J0_length_8abf5 (pr_J0_length_8abf5 (rh h T) y2)) dX8_wordIn_9 g662 g663 g664 g158 g665 hd_J0_length_8abf5 rfl ⟨Nat.le_of_ble_eq_true rfl, Nat.le_of_ble_eq_true rfl⟩ ⟨Nat.le_of_ble_eq_true rfl, Nat.le_of_ble_eq_true rfl⟩ rfl (Nat.le_of_ble_eq_true rfl) ?_
    rcases it_e hf with ⟨c4, hf⟩ | ⟨c4, hf⟩
    · refine e_icmp_gt (pc := 12) (tgt := 43) C dX8_wordIn_12 (by decide) (fun _ => ?_) (fun q => absurd c4 q)
      refine e_sipush (v := (258 : Int32)) (pc := 43) C dX8_wordIn_43 (by decide) ?_
      obtain rfl := so_e hf
      exact e_iret (pc := 46) C hr dX8_wordIn_46 (Nat.le_of_ble_eq_true rfl) (Nat.le_of_ble_eq_true rfl)
    · refine e_icmp_gt (pc := 12) (tgt := 43) C dX8_wordIn_12 (by decide) (fun q => absurd q c4) (fun _ => ?_)
      refine e_aload_n (pc := 15) C dX8_wordIn_15 0 rfl rfl ?_
      refine e_aload_n (pc := 16) C dX8_wordIn_16 1 rfl rfl ?_
      refine e_iload (pc := 17) C dX8_wordIn_17 4 rfl ?_
      refine e_iload_n (pc := 19) C dX8_wordIn_19 2 rfl rfl ?_
      refine e_iload_n (pc := 20) C dX8_wordIn_20 3 rfl rfl ?_
      obtain ⟨r7, w5, y6, hf⟩ := cw_e hf
      refine e_callVi (pc := 21) (st := []) 8 C (st_X8_isColumn hI y6) dX8_wordIn_21 (by decide) (hI.1 _ rT0) g672 g674 g4 g147 g675 hd_X8_isColumn rfl ⟨Nat.le_of_ble_eq_true rfl, Nat.le_of_ble_eq_true rfl⟩ ⟨Nat.le_of_ble_eq_true rfl, Nat.le_of_ble_eq_true rfl⟩ rfl (Nat.le_of_ble_eq_true rfl) ?_
      rcases it_e hf with ⟨c8, hf⟩ | ⟨c8, hf⟩
      · refine e_if_eq (pc := 24) (tgt := 37) C dX8_wordIn_24 (by decide) (fun _ => ?_) (fun q => absurd c8 q)
        obtain ⟨x9, ex9, hf⟩ := nn_e hf
        refine e_iinc (pc := 37) (v := x9) (lv2 := [(4, .int x9), (0, .ref (T + 0)), (1, .ref v1), (2, .int v2), (3, .int v3)]) C hm dX8_wordIn_37 4 rfl (by rw [ex9]; rfl) (by decide) rfl ?_
        refine e_goto (pc := 40) (tgt := 3) C dX8_wordIn_40 (by decide) ?_
        refine e_lv (lv2 := [(0, .ref (T + 0)), (1, .ref v1), (2, .int v2), (3, .int v3), (4, .int x9)]) [1, 2, 3, 4, 0] rfl ?_
        exact ih_3 x9 w5 hf
      · refine e_if_eq (pc := 24) (tgt := 37) C dX8_wordIn_24 (by decide) (fun q => absurd q c8) (fun _ => ?_)
        refine e_lv (lv2 := [(4, .int v4)]) [4] rfl ?_
        exact hK_27 v4 w5 hf
set_option maxHeartbeats 4000000 in
set_option maxRecDepth 100000 in
theorem st_X8_wordIn {G : GG} {l : Launch} {T : Nat} {h : AH} (hI : RI h T) {v1 : Nat} {v2 : Int32} {v3 : Int32} {w : MS} {y : Int32 × MS} (hf : s_X8_wordIn G v1 v2 v3 w = some y) : Ct G l yX8_wordIn cX8_wordIn 5 (some .int) 5 111 0 0 [.ref (T + 0), .ref v1, .int v2, .int v3] (rh h T w) (some (.int y.1), rh h T y.2) := by
  refine ct_of (by decide) (Nat.le_of_ble_eq_true rfl) ?_
  intro p e s m args below meth c C hm hr hin
  have C : Cx G cX8_wordIn RX8 p s m args meth c := C
  refine e_lv (lv2 := [(0, .ref (T + 0)), (1, .ref v1), (2, .int v2), (3, .int v3)]) [0, 1, 2, 3] rfl ?_
  unfold s_X8_wordIn at hf
  refine e_iconst (v := (0 : Int32)) (pc := 0) C dX8_wordIn_0 (by decide) ?_
  refine e_istore (pc := 1) (lv2 := [(4, .int (0 : Int32)), (0, .ref (T + 0)), (1, .ref v1), (2, .int v2), (3, .int v3)]) C hm dX8_wordIn_1 (by decide) rfl ?_
  refine e_lv (lv2 := [(0, .ref (T + 0)), (1, .ref v1), (2, .int v2), (3, .int v3), (4, .int (0 : Int32))]) [1, 2, 3, 4, 0] rfl ?_
  refine es_X8_wordIn_3 hI C hm hr hin (fun v4_27 h_27 hf => ?_) bN (0 : Int32) w hf
  refine e_sipush (v := (300 : Int32)) (pc := 27) C dX8_wordIn_27 (by decide) ?_
  refine e_iload (pc := 30) C dX8_wordIn_30 0 rfl ?_
  refine e_bipush (v := (6 : Int32)) (pc := 32) C dX8_wordIn_32 (by decide) ?_
  refine e_idiv (pc := 34) C dX8_wordIn_34 (by decide) ?_
  refine e_iadd (pc := 35) C dX8_wordIn_35 ?_
  obtain rfl := so_e hf
  exact e_iret (pc := 36) C hr dX8_wordIn_36 (Nat.le_of_ble_eq_true rfl) (Nat.le_of_ble_eq_true rfl)
theorem dX8_cutAt_0 : decode cX8_cutAt 0 = .ok (.aload_n 0, 1) := by decide +kernel
theorem dX8_cutAt_1 : decode cX8_cutAt 1 = .ok (.iload_n 1, 1) := by decide +kernel
theorem dX8_cutAt_2 : decode cX8_cutAt 2 = .ok (.invokevirtual 59, 3) := by decide +kernel
theorem dX8_cutAt_5 : decode cX8_cutAt 5 = .ok (.istore_n 3, 1) := by decide +kernel
theorem dX8_cutAt_6 : decode cX8_cutAt 6 = .ok (.aload_n 0, 1) := by decide +kernel
theorem dX8_cutAt_7 : decode cX8_cutAt 7 = .ok (.iload_n 1, 1) := by decide +kernel
theorem dX8_cutAt_8 : decode cX8_cutAt 8 = .ok (.iconst 1, 1) := by decide +kernel
theorem dX8_cutAt_9 : decode cX8_cutAt 9 = .ok (.isub, 1) := by decide +kernel
theorem dX8_cutAt_10 : decode cX8_cutAt 10 = .ok (.invokevirtual 59, 3) := by decide +kernel
theorem dX8_cutAt_13 : decode cX8_cutAt 13 = .ok (.istore 4, 2) := by decide +kernel
theorem dX8_cutAt_15 : decode cX8_cutAt 15 = .ok (.iload_n 3, 1) := by decide +kernel
theorem dX8_cutAt_16 : decode cX8_cutAt 16 = .ok (.invokestatic 63, 3) := by decide +kernel
theorem dX8_cutAt_19 : decode cX8_cutAt 19 = .ok (.ifCond .eq 67, 3) := by decide +kernel
theorem dX8_cutAt_22 : decode cX8_cutAt 22 = .ok (.iload 4, 2) := by decide +kernel
theorem dX8_cutAt_24 : decode cX8_cutAt 24 = .ok (.invokestatic 63, 3) := by decide +kernel
theorem dX8_cutAt_27 : decode cX8_cutAt 27 = .ok (.ifCond .ne 11, 3) := by decide +kernel
theorem dX8_cutAt_30 : decode cX8_cutAt 30 = .ok (.aload_n 0, 1) := by decide +kernel
theorem dX8_cutAt_31 : decode cX8_cutAt 31 = .ok (.sipush 256, 3) := by decide +kernel
theorem dX8_cutAt_34 : decode cX8_cutAt 34 = .ok (.iload_n 1, 1) := by decide +kernel
theorem dX8_cutAt_35 : decode cX8_cutAt 35 = .ok (.invokevirtual 48, 3) := by decide +kernel
theorem dX8_cutAt_38 : decode cX8_cutAt 38 = .ok (.aload_n 0, 1) := by decide +kernel
theorem dX8_cutAt_39 : decode cX8_cutAt 39 = .ok (.getfield 26, 3) := by decide +kernel
theorem dX8_cutAt_42 : decode cX8_cutAt 42 = .ok (.aload_n 0, 1) := by decide +kernel
theorem dX8_cutAt_43 : decode cX8_cutAt 43 = .ok (.getfield 29, 3) := by decide +kernel
theorem dX8_cutAt_46 : decode cX8_cutAt 46 = .ok (.iload_n 1, 1) := by decide +kernel
theorem dX8_cutAt_47 : decode cX8_cutAt 47 = .ok (.aload_n 0, 1) := by decide +kernel
theorem dX8_cutAt_48 : decode cX8_cutAt 48 = .ok (.getfield 23, 3) := by decide +kernel
theorem dX8_cutAt_51 : decode cX8_cutAt 51 = .ok (.aload_n 0, 1) := by decide +kernel
theorem dX8_cutAt_52 : decode cX8_cutAt 52 = .ok (.getfield 29, 3) := by decide +kernel
theorem dX8_cutAt_55 : decode cX8_cutAt 55 = .ok (.iaload, 1) := by decide +kernel
theorem dX8_cutAt_56 : decode cX8_cutAt 56 = .ok (.isub, 1) := by decide +kernel
theorem dX8_cutAt_57 : decode cX8_cutAt 57 = .ok (.iconst 5, 1) := by decide +kernel
theorem dX8_cutAt_58 : decode cX8_cutAt 58 = .ok (.if_icmp .ge 23, 3) := by decide +kernel
theorem dX8_cutAt_61 : decode cX8_cutAt 61 = .ok (.aload_n 0, 1) := by decide +kernel
theorem dX8_cutAt_62 : decode cX8_cutAt 62 = .ok (.getfield 26, 3) := by decide +kernel
theorem dX8_cutAt_65 : decode cX8_cutAt 65 = .ok (.aload_n 0, 1) := by decide +kernel
theorem dX8_cutAt_66 : decode cX8_cutAt 66 = .ok (.getfield 29, 3) := by decide +kernel
theorem dX8_cutAt_69 : decode cX8_cutAt 69 = .ok (.iaload, 1) := by decide +kernel
theorem dX8_cutAt_70 : decode cX8_cutAt 70 = .ok (.bipush 10, 2) := by decide +kernel
theorem dX8_cutAt_72 : decode cX8_cutAt 72 = .ok (.imul, 1) := by decide +kernel
theorem dX8_cutAt_73 : decode cX8_cutAt 73 = .ok (.iload_n 3, 1) := by decide +kernel
theorem dX8_cutAt_74 : decode cX8_cutAt 74 = .ok (.iadd, 1) := by decide +kernel
theorem dX8_cutAt_75 : decode cX8_cutAt 75 = .ok (.bipush 48, 2) := by decide +kernel
theorem dX8_cutAt_77 : decode cX8_cutAt 77 = .ok (.isub, 1) := by decide +kernel
theorem dX8_cutAt_78 : decode cX8_cutAt 78 = .ok (.goto 4, 3) := by decide +kernel
theorem dX8_cutAt_81 : decode cX8_cutAt 81 = .ok (.iconst (-1), 1) := by decide +kernel
theorem dX8_cutAt_82 : decode cX8_cutAt 82 = .ok (.iastore, 1) := by decide +kernel
theorem dX8_cutAt_83 : decode cX8_cutAt 83 = .ok (.goto 128, 3) := by decide +kernel
theorem dX8_cutAt_86 : decode cX8_cutAt 86 = .ok (.iload_n 3, 1) := by decide +kernel
theorem dX8_cutAt_87 : decode cX8_cutAt 87 = .ok (.invokestatic 67, 3) := by decide +kernel
theorem dX8_cutAt_90 : decode cX8_cutAt 90 = .ok (.ifCond .eq 61, 3) := by decide +kernel
theorem dX8_cutAt_93 : decode cX8_cutAt 93 = .ok (.iload 4, 2) := by decide +kernel
theorem dX8_cutAt_95 : decode cX8_cutAt 95 = .ok (.invokestatic 67, 3) := by decide +kernel
theorem dX8_cutAt_98 : decode cX8_cutAt 98 = .ok (.ifCond .ne 11, 3) := by decide +kernel
theorem dX8_cutAt_101 : decode cX8_cutAt 101 = .ok (.aload_n 0, 1) := by decide +kernel
theorem dX8_cutAt_102 : decode cX8_cutAt 102 = .ok (.sipush 258, 3) := by decide +kernel
theorem dX8_cutAt_105 : decode cX8_cutAt 105 = .ok (.iload_n 1, 1) := by decide +kernel
theorem dX8_cutAt_106 : decode cX8_cutAt 106 = .ok (.invokevirtual 48, 3) := by decide +kernel
theorem dX8_cutAt_109 : decode cX8_cutAt 109 = .ok (.aload_n 0, 1) := by decide +kernel
theorem dX8_cutAt_110 : decode cX8_cutAt 110 = .ok (.iload_n 1, 1) := by decide +kernel
theorem dX8_cutAt_111 : decode cX8_cutAt 111 = .ok (.iconst 1, 1) := by decide +kernel
theorem dX8_cutAt_112 : decode cX8_cutAt 112 = .ok (.iadd, 1) := by decide +kernel
theorem dX8_cutAt_113 : decode cX8_cutAt 113 = .ok (.invokevirtual 59, 3) := by decide +kernel
theorem dX8_cutAt_116 : decode cX8_cutAt 116 = .ok (.invokestatic 67, 3) := by decide +kernel
theorem dX8_cutAt_119 : decode cX8_cutAt 119 = .ok (.ifCond .ne 92, 3) := by decide +kernel
theorem dX8_cutAt_122 : decode cX8_cutAt 122 = .ok (.aload_n 0, 1) := by decide +kernel
theorem dX8_cutAt_123 : decode cX8_cutAt 123 = .ok (.getfield 19, 3) := by decide +kernel
theorem dX8_cutAt_126 : decode cX8_cutAt 126 = .ok (.aload_n 0, 1) := by decide +kernel
theorem dX8_cutAt_127 : decode cX8_cutAt 127 = .ok (.getfield 29, 3) := by decide +kernel
theorem dX8_cutAt_130 : decode cX8_cutAt 130 = .ok (.aload_n 0, 1) := by decide +kernel
theorem dX8_cutAt_131 : decode cX8_cutAt 131 = .ok (.aload_n 2, 1) := by decide +kernel
theorem dX8_cutAt_132 : decode cX8_cutAt 132 = .ok (.aload_n 0, 1) := by decide +kernel
theorem dX8_cutAt_133 : decode cX8_cutAt 133 = .ok (.getfield 23, 3) := by decide +kernel
theorem dX8_cutAt_136 : decode cX8_cutAt 136 = .ok (.aload_n 0, 1) := by decide +kernel
theorem dX8_cutAt_137 : decode cX8_cutAt 137 = .ok (.getfield 29, 3) := by decide +kernel
theorem dX8_cutAt_140 : decode cX8_cutAt 140 = .ok (.iaload, 1) := by decide +kernel
theorem dX8_cutAt_141 : decode cX8_cutAt 141 = .ok (.iload_n 1, 1) := by decide +kernel
theorem dX8_cutAt_142 : decode cX8_cutAt 142 = .ok (.iconst 1, 1) := by decide +kernel
theorem dX8_cutAt_143 : decode cX8_cutAt 143 = .ok (.iadd, 1) := by decide +kernel
theorem dX8_cutAt_144 : decode cX8_cutAt 144 = .ok (.invokevirtual 70, 3) := by decide +kernel
theorem dX8_cutAt_147 : decode cX8_cutAt 147 = .ok (.iastore, 1) := by decide +kernel
theorem dX8_cutAt_148 : decode cX8_cutAt 148 = .ok (.goto 63, 3) := by decide +kernel
theorem dX8_cutAt_151 : decode cX8_cutAt 151 = .ok (.iload_n 3, 1) := by decide +kernel
theorem dX8_cutAt_152 : decode cX8_cutAt 152 = .ok (.bipush 61, 2) := by decide +kernel
theorem dX8_cutAt_154 : decode cX8_cutAt 154 = .ok (.if_icmp .ne 45, 3) := by decide +kernel
theorem dX8_cutAt_157 : decode cX8_cutAt 157 = .ok (.iload 4, 2) := by decide +kernel
theorem dX8_cutAt_159 : decode cX8_cutAt 159 = .ok (.bipush 60, 2) := by decide +kernel
theorem dX8_cutAt_161 : decode cX8_cutAt 161 = .ok (.if_icmp .eq 10, 3) := by decide +kernel
theorem dX8_cutAt_164 : decode cX8_cutAt 164 = .ok (.iload 4, 2) := by decide +kernel
theorem dX8_cutAt_166 : decode cX8_cutAt 166 = .ok (.bipush 62, 2) := by decide +kernel
theorem dX8_cutAt_168 : decode cX8_cutAt 168 = .ok (.if_icmp .ne 31, 3) := by decide +kernel
theorem dX8_cutAt_171 : decode cX8_cutAt 171 = .ok (.aload_n 0, 1) := by decide +kernel
theorem dX8_cutAt_172 : decode cX8_cutAt 172 = .ok (.getfield 19, 3) := by decide +kernel
theorem dX8_cutAt_175 : decode cX8_cutAt 175 = .ok (.aload_n 0, 1) := by decide +kernel
theorem dX8_cutAt_176 : decode cX8_cutAt 176 = .ok (.getfield 29, 3) := by decide +kernel
theorem dX8_cutAt_179 : decode cX8_cutAt 179 = .ok (.iload 4, 2) := by decide +kernel
theorem dX8_cutAt_181 : decode cX8_cutAt 181 = .ok (.bipush 60, 2) := by decide +kernel
theorem dX8_cutAt_183 : decode cX8_cutAt 183 = .ok (.if_icmp .ne 9, 3) := by decide +kernel
theorem dX8_cutAt_186 : decode cX8_cutAt 186 = .ok (.sipush 259, 3) := by decide +kernel
theorem dX8_cutAt_189 : decode cX8_cutAt 189 = .ok (.goto 6, 3) := by decide +kernel
theorem dX8_cutAt_192 : decode cX8_cutAt 192 = .ok (.sipush 260, 3) := by decide +kernel
theorem dX8_cutAt_195 : decode cX8_cutAt 195 = .ok (.iastore, 1) := by decide +kernel
theorem dX8_cutAt_196 : decode cX8_cutAt 196 = .ok (.goto 15, 3) := by decide +kernel
theorem dX8_cutAt_199 : decode cX8_cutAt 199 = .ok (.iload_n 3, 1) := by decide +kernel
theorem dX8_cutAt_200 : decode cX8_cutAt 200 = .ok (.bipush 32, 2) := by decide +kernel
theorem dX8_cutAt_202 : decode cX8_cutAt 202 = .ok (.if_icmp .eq 9, 3) := by decide +kernel
theorem dX8_cutAt_205 : decode cX8_cutAt 205 = .ok (.aload_n 0, 1) := by decide +kernel
theorem dX8_cutAt_206 : decode cX8_cutAt 206 = .ok (.iload_n 3, 1) := by decide +kernel
theorem dX8_cutAt_207 : decode cX8_cutAt 207 = .ok (.iload_n 1, 1) := by decide +kernel
theorem dX8_cutAt_208 : decode cX8_cutAt 208 = .ok (.invokevirtual 48, 3) := by decide +kernel
theorem dX8_cutAt_211 : decode cX8_cutAt 211 = .ok (.return_, 1) := by decide +kernel
def s_X8_cutAt (G : GG) (v1 : Int32) (v2 : Nat) (w : MS) : Option (MS) :=
cw (s_X8_byteAt G v1 w) fun r3 w1 =>
cw (s_X8_byteAt G (v1 - (1 : Int32)) w1) fun r6 w4 =>
cw (s_X8_isDigit G r3 w4) fun r9 w7 =>
if r9 = 0 then (cw (s_X8_isLetter G r3 w7) fun r13 w11 =>
if r13 = 0 then (nn (fun (uu_199 : Unit) => (if r3 = (32 : Int32) then (some w11) else
ob (s_X8_put G r3 v1 w11) fun w16 =>
some w16)) fun j_199 =>
if r3 = (61 : Int32) then (nn (fun (uu_171 : Unit) => (nn (fun (s0_195 : Int32) => (ck (ixn 401 (w11.1 0 5) = true) <|
nn (w_si w11 2 (w11.1 0 5).toNatClampNeg s0_195) fun w20 =>
some w20)) fun j_195 =>
if r6 = (60 : Int32) then (j_195 (259 : Int32)) else
j_195 (260 : Int32))) fun j_171 =>
if r6 = (60 : Int32) then (j_171 ()) else
if r6 = (62 : Int32) then (j_171 ()) else
j_199 ()) else
j_199 ()) else
cw (s_X8_isLetter G r6 w11) fun r26 w24 =>
nn (fun (h_109 : MS) => (cw (s_X8_byteAt G (v1 + (1 : Int32)) h_109) fun r29 w27 =>
cw (s_X8_isLetter G r29 w27) fun r32 w30 =>
if r32 = 0 then (ck (ixn 401 (w30.1 0 5) = true) <|
cw (s_X8_wordIn G v2 (w30.1 3 (w30.1 0 5).toNatClampNeg) (v1 + (1 : Int32)) w30) fun r37 w35 =>
ck (ixn 401 (w30.1 0 5) = true) <|
nn (w_si w35 2 (w30.1 0 5).toNatClampNeg r37) fun w39 =>
some w39) else
some w30)) fun j_109 =>
if r26 = 0 then (ob (s_X8_put G (258 : Int32) v1 w24) fun w41 =>
j_109 w41) else
j_109 w24) else
cw (s_X8_isDigit G r6 w7) fun r45 w43 =>
nn (fun (h_38 : MS) => (ck (ixn 401 (h_38.1 0 5) = true) <|
nn (fun (s0_82 : Int32) => (ck (ixn 401 (h_38.1 0 5) = true) <|
nn (w_si h_38 4 (h_38.1 0 5).toNatClampNeg s0_82) fun w48 =>
some w48)) fun j_82 =>
if (5 : Int32) ≤ (v1 - (h_38.1 3 (h_38.1 0 5).toNatClampNeg)) then (j_82 (-1 : Int32)) else
ck (ixn 401 (h_38.1 0 5) = true) <|
j_82 ((((h_38.1 4 (h_38.1 0 5).toNatClampNeg) * (10 : Int32)) + r3) - (48 : Int32)))) fun j_38 =>
if r45 = 0 then (ob (s_X8_put G (256 : Int32) v1 w43) fun w52 =>
j_38 w52) else
j_38 w43
set_option maxHeartbeats 4000000 in
set_option maxRecDepth 100000 in
theorem st_X8_cutAt {G : GG} {l : Launch} {T : Nat} {h : AH} (hI : RI h T) {v1 : Int32} {v2 : Nat} {w : MS} {y : MS} (hf : s_X8_cutAt G v1 v2 w = some y) : Ct G l yX8_cutAt cX8_cutAt 5 none 6 135 0 0 [.ref (T + 0), .int v1, .ref v2] (rh h T w) (none, rh h T y) := by
  refine ct_of (by decide) (Nat.le_of_ble_eq_true rfl) ?_
  intro p e s m args below meth c C hm hr hin
  have C : Cx G cX8_cutAt RX8 p s m args meth c := C
  refine e_lv (lv2 := [(0, .ref (T + 0)), (1, .int v1), (2, .ref v2)]) [0, 1, 2] rfl ?_
  unfold s_X8_cutAt at hf
  refine e_aload_n (pc := 0) C dX8_cutAt_0 0 rfl rfl ?_
  refine e_iload_n (pc := 1) C dX8_cutAt_1 1 rfl rfl ?_
  obtain ⟨r3, w1, y2, hf⟩ := cw_e hf
  refine e_callVi (pc := 2) (st := []) 8 C (st_X8_byteAt hI y2) dX8_cutAt_2 (by decide) (hI.1 _ rT0) g644 g646 g1 g147 g647 hd_X8_byteAt rfl ⟨Nat.le_of_ble_eq_true rfl, Nat.le_of_ble_eq_true rfl⟩ ⟨Nat.le_of_ble_eq_true rfl, Nat.le_of_ble_eq_true rfl⟩ rfl (Nat.le_of_ble_eq_true rfl) ?_
  refine e_istore_n (pc := 5) (lv2 := [(3, .int r3), (0, .ref (T + 0)), (1, .int v1), (2, .ref v2)]) C hm dX8_cutAt_5 rfl (by decide) rfl ?_
  refine e_aload_n (pc := 6) C dX8_cutAt_6 1 rfl rfl ?_
  refine e_iload_n (pc := 7) C dX8_cutAt_7 2 rfl rfl ?_
  refine e_iconst (v := (1 : Int32)) (pc := 8) C dX8_cutAt_8 (by decide) ?_
  refine e_isub (pc := 9) C dX8_cutAt_9 ?_
  obtain ⟨r6, w4, y5, hf⟩ := cw_e hf
  refine e_callVi (pc := 10) (st := []) 8 C (st_X8_byteAt hI y5) dX8_cutAt_10 (by decide) (hI.1 _ rT0) g644 g646 g1 g147 g647 hd_X8_byteAt rfl ⟨Nat.le_of_ble_eq_true rfl, Nat.le_of_ble_eq_true rfl⟩ ⟨Nat.le_of_ble_eq_true rfl, Nat.le_of_ble_eq_true rfl⟩ rfl (Nat.le_of_ble_eq_true rfl) ?_
  refine e_istore (pc := 13) (lv2 := [(4, .int r6), (3, .int r3), (0, .ref (T + 0)), (1, .int v1), (2, .ref v2)]) C hm dX8_cutAt_13 (by decide) rfl ?_
  refine e_iload_n (pc := 15) C dX8_cutAt_15 1 rfl rfl ?_
  obtain ⟨r9, w7, y8, hf⟩ := cw_e hf
  refine e_callSi (pc := 16) (st := []) C (st_X8_isDigit hI y8) dX8_cutAt_16 g648 g649 g147 g650 hd_X8_isDigit rfl ⟨Nat.le_of_ble_eq_true rfl, Nat.le_of_ble_eq_true rfl⟩ ⟨Nat.le_of_ble_eq_true rfl, Nat.le_of_ble_eq_true rfl⟩ rfl (Nat.le_of_ble_eq_true rfl) ?_
  rcases it_e hf with ⟨c10, hf⟩ | ⟨c10, hf⟩
  · refine e_if_eq (pc := 19) (tgt := 86) C dX8_cutAt_19 (by decide) (fun _ => ?_) (fun q => absurd c10 q)
    refine e_iload_n (pc := 86) C dX8_cutAt_86 1 rfl rfl ?_
    obtain ⟨r13, w11, y12, hf⟩ := cw_e hf
    refine e_callSi (pc := 87) (st := []) C (st_X8_isLetter hI y12) dX8_cutAt_87 g655 g656 g147 g657 hd_X8_isLetter rfl ⟨Nat.le_of_ble_eq_true rfl, Nat.le_of_ble_eq_true rfl⟩ ⟨Nat.le_of_ble_eq_true rfl, Nat.le_of_ble_eq_true rfl⟩ rfl (Nat.le_of_ble_eq_true rfl) ?_
    rcases it_e hf with ⟨c14, hf⟩ | ⟨c14, hf⟩
    · refine e_if_eq (pc := 90) (tgt := 151) C dX8_cutAt_90 (by decide) (fun _ => ?_) (fun q => absurd c14 q)
      refine e_iload_n (pc := 151) C dX8_cutAt_151 1 rfl rfl ?_
      refine e_bipush (v := (61 : Int32)) (pc := 152) C dX8_cutAt_152 (by decide) ?_
      obtain ⟨j_199, ej_199, hf⟩ := nn_e hf
      have W_199 : ∀ (uu_199 : Unit), j_199 uu_199 = some y → EE G p l e ({ frames := 6, cells := 0, slots := 0, locals := 135 } : Room) s m args below meth c (none, rh h T y) 0 0 199 [(0, .ref (T + 0)), (1, .int v1), (3, .int r3)] [] (rh h T w11) 0 0 := by
        intro uu_199 hf
        rw [ej_199] at hf
        refine e_iload_n (pc := 199) C dX8_cutAt_199 2 rfl rfl ?_
        refine e_bipush (v := (32 : Int32)) (pc := 200) C dX8_cutAt_200 (by decide) ?_
        rcases it_e hf with ⟨c15, hf⟩ | ⟨c15, hf⟩
        · refine e_icmp_eq (pc := 202) (tgt := 211) C dX8_cutAt_202 (by decide) (fun _ => ?_) (fun q => absurd c15 q)
          obtain rfl := so_e hf
          exact e_vret (pc := 211) C hr dX8_cutAt_211 (Nat.le_of_ble_eq_true rfl) (Nat.le_of_ble_eq_true rfl)
        · refine e_icmp_eq (pc := 202) (tgt := 211) C dX8_cutAt_202 (by decide) (fun q => absurd q c15) (fun _ => ?_)
          refine e_aload_n (pc := 205) C dX8_cutAt_205 0 rfl rfl ?_
          refine e_iload_n (pc := 206) C dX8_cutAt_206 2 rfl rfl ?_
          refine e_iload_n (pc := 207) C dX8_cutAt_207 1 rfl rfl ?_
          obtain ⟨w16, y17, hf⟩ := ob_e hf
          refine e_callVv (pc := 208) (st := []) 8 C (st_X8_put hI y17) dX8_cutAt_208 (by decide) (hI.1 _ rT0) g651 g653 g2 g147 g654 hd_X8_put rfl ⟨Nat.le_of_ble_eq_true rfl, Nat.le_of_ble_eq_true rfl⟩ ⟨Nat.le_of_ble_eq_true rfl, Nat.le_of_ble_eq_true rfl⟩ rfl (Nat.le_of_ble_eq_true rfl) ?_
          obtain rfl := so_e hf
          exact e_vret (pc := 211) C hr dX8_cutAt_211 (Nat.le_of_ble_eq_true rfl) (Nat.le_of_ble_eq_true rfl)
      rcases it_e hf with ⟨c18, hf⟩ | ⟨c18, hf⟩
      · refine e_icmp_ne (pc := 154) (tgt := 199) C dX8_cutAt_154 (by decide) (fun q => absurd c18 q) (fun _ => ?_)
        refine e_iload (pc := 157) C dX8_cutAt_157 0 rfl ?_
        refine e_bipush (v := (60 : Int32)) (pc := 159) C dX8_cutAt_159 (by decide) ?_
        obtain ⟨j_171, ej_171, hf⟩ := nn_e hf
        have W_171 : ∀ (uu_171 : Unit), j_171 uu_171 = some y → EE G p l e ({ frames := 6, cells := 0, slots := 0, locals := 135 } : Room) s m args below meth c (none, rh h T y) 0 0 171 [(0, .ref (T + 0)), (4, .int r6)] [] (rh h T w11) 0 0 := by
          intro uu_171 hf
          rw [ej_171] at hf
          refine e_aload_n (pc := 171) C dX8_cutAt_171 0 rfl rfl ?_
          refine r_getr (pc := 172) 0 8 2 2 hI C dX8_cutAt_172 (by decide) (by decide) g184 rfl rT0 (by decide) ?_
          refine e_aload_n (pc := 175) C dX8_cutAt_175 0 rfl rfl ?_
          refine r_geti (pc := 176) 0 8 5 hI C dX8_cutAt_176 (by decide) (by decide) g187 rfl rT0 (by decide) ?_
          refine e_iload (pc := 179) C dX8_cutAt_179 1 rfl ?_
          refine e_bipush (v := (60 : Int32)) (pc := 181) C dX8_cutAt_181 (by decide) ?_
          obtain ⟨j_195, ej_195, hf⟩ := nn_e hf
          have W_195 : ∀ (s0_195 : Int32), j_195 s0_195 = some y → EE G p l e ({ frames := 6, cells := 0, slots := 0, locals := 135 } : Room) s m args below meth c (none, rh h T y) 0 0 195 [] [.int s0_195, .int (w11.1 0 5), .ref (T + 2)] (rh h T w11) 0 0 := by
            intro s0_195 hf
            rw [ej_195] at hf
            obtain ⟨q19, hf⟩ := ck_e hf
            refine r_iast (pc := 195) 2 401 hI C dX8_cutAt_195 rT2 (by decide) (ixn_e q19) ?_
            obtain ⟨w20, ew20, hf⟩ := nn_e hf
            refine r_hp ew20 ?_
            refine e_goto (pc := 196) (tgt := 211) C dX8_cutAt_196 (by decide) ?_
            obtain rfl := so_e hf
            exact e_vret (pc := 211) C hr dX8_cutAt_211 (Nat.le_of_ble_eq_true rfl) (Nat.le_of_ble_eq_true rfl)
          rcases it_e hf with ⟨c21, hf⟩ | ⟨c21, hf⟩
          · refine e_icmp_ne (pc := 183) (tgt := 192) C dX8_cutAt_183 (by decide) (fun q => absurd c21 q) (fun _ => ?_)
            refine e_sipush (v := (259 : Int32)) (pc := 186) C dX8_cutAt_186 (by decide) ?_
            refine e_goto (pc := 189) (tgt := 195) C dX8_cutAt_189 (by decide) ?_
            refine e_lv (lv2 := []) [] rfl ?_
            exact W_195 (259 : Int32) hf
          · refine e_icmp_ne (pc := 183) (tgt := 192) C dX8_cutAt_183 (by decide) (fun _ => ?_) (fun q => absurd q c21)
            refine e_sipush (v := (260 : Int32)) (pc := 192) C dX8_cutAt_192 (by decide) ?_
            refine e_lv (lv2 := []) [] rfl ?_
            exact W_195 (260 : Int32) hf
        rcases it_e hf with ⟨c22, hf⟩ | ⟨c22, hf⟩
        · refine e_icmp_eq (pc := 161) (tgt := 171) C dX8_cutAt_161 (by decide) (fun _ => ?_) (fun q => absurd c22 q)
          refine e_lv (lv2 := [(0, .ref (T + 0)), (4, .int r6)]) [2, 0] rfl ?_
          exact W_171 () hf
        · refine e_icmp_eq (pc := 161) (tgt := 171) C dX8_cutAt_161 (by decide) (fun q => absurd q c22) (fun _ => ?_)
          refine e_iload (pc := 164) C dX8_cutAt_164 0 rfl ?_
          refine e_bipush (v := (62 : Int32)) (pc := 166) C dX8_cutAt_166 (by decide) ?_
          rcases it_e hf with ⟨c23, hf⟩ | ⟨c23, hf⟩
          · refine e_icmp_ne (pc := 168) (tgt := 199) C dX8_cutAt_168 (by decide) (fun q => absurd c23 q) (fun _ => ?_)
            refine e_lv (lv2 := [(0, .ref (T + 0)), (4, .int r6)]) [2, 0] rfl ?_
            exact W_171 () hf
          · refine e_icmp_ne (pc := 168) (tgt := 199) C dX8_cutAt_168 (by decide) (fun _ => ?_) (fun q => absurd q c23)
            refine e_lv (lv2 := [(0, .ref (T + 0)), (1, .int v1), (3, .int r3)]) [2, 3, 1] rfl ?_
            exact W_199 () hf
      · refine e_icmp_ne (pc := 154) (tgt := 199) C dX8_cutAt_154 (by decide) (fun _ => ?_) (fun q => absurd q c18)
        refine e_lv (lv2 := [(0, .ref (T + 0)), (1, .int v1), (3, .int r3)]) [2, 3, 1] rfl ?_
        exact W_199 () hf
    · refine e_if_eq (pc := 90) (tgt := 151) C dX8_cutAt_90 (by decide) (fun q => absurd q c14) (fun _ => ?_)
      refine e_iload (pc := 93) C dX8_cutAt_93 0 rfl ?_
      obtain ⟨r26, w24, y25, hf⟩ := cw_e hf
      refine e_callSi (pc := 95) (st := []) C (st_X8_isLetter hI y25) dX8_cutAt_95 g655 g656 g147 g657 hd_X8_isLetter rfl ⟨Nat.le_of_ble_eq_true rfl, Nat.le_of_ble_eq_true rfl⟩ ⟨Nat.le_of_ble_eq_true rfl, Nat.le_of_ble_eq_true rfl⟩ rfl (Nat.le_of_ble_eq_true rfl) ?_
      obtain ⟨j_109, ej_109, hf⟩ := nn_e hf
      have W_109 : ∀ (h_109 : MS), j_109 h_109 = some y → EE G p l e ({ frames := 6, cells := 0, slots := 0, locals := 135 } : Room) s m args below meth c (none, rh h T y) 0 0 109 [(0, .ref (T + 0)), (1, .int v1), (2, .ref v2)] [] (rh h T h_109) 0 0 := by
        intro h_109 hf
        rw [ej_109] at hf
        refine e_aload_n (pc := 109) C dX8_cutAt_109 0 rfl rfl ?_
        refine e_iload_n (pc := 110) C dX8_cutAt_110 1 rfl rfl ?_
        refine e_iconst (v := (1 : Int32)) (pc := 111) C dX8_cutAt_111 (by decide) ?_
        refine e_iadd (pc := 112) C dX8_cutAt_112 ?_
        obtain ⟨r29, w27, y28, hf⟩ := cw_e hf
        refine e_callVi (pc := 113) (st := []) 8 C (st_X8_byteAt hI y28) dX8_cutAt_113 (by decide) (hI.1 _ rT0) g644 g646 g1 g147 g647 hd_X8_byteAt rfl ⟨Nat.le_of_ble_eq_true rfl, Nat.le_of_ble_eq_true rfl⟩ ⟨Nat.le_of_ble_eq_true rfl, Nat.le_of_ble_eq_true rfl⟩ rfl (Nat.le_of_ble_eq_true rfl) ?_
        obtain ⟨r32, w30, y31, hf⟩ := cw_e hf
        refine e_callSi (pc := 116) (st := []) C (st_X8_isLetter hI y31) dX8_cutAt_116 g655 g656 g147 g657 hd_X8_isLetter rfl ⟨Nat.le_of_ble_eq_true rfl, Nat.le_of_ble_eq_true rfl⟩ ⟨Nat.le_of_ble_eq_true rfl, Nat.le_of_ble_eq_true rfl⟩ rfl (Nat.le_of_ble_eq_true rfl) ?_
        rcases it_e hf with ⟨c33, hf⟩ | ⟨c33, hf⟩
        · refine e_if_ne (pc := 119) (tgt := 211) C dX8_cutAt_119 (by decide) (fun q => absurd c33 q) (fun _ => ?_)
          refine e_aload_n (pc := 122) C dX8_cutAt_122 0 rfl rfl ?_
          refine r_getr (pc := 123) 0 8 2 2 hI C dX8_cutAt_123 (by decide) (by decide) g184 rfl rT0 (by decide) ?_
          refine e_aload_n (pc := 126) C dX8_cutAt_126 0 rfl rfl ?_
          refine r_geti (pc := 127) 0 8 5 hI C dX8_cutAt_127 (by decide) (by decide) g187 rfl rT0 (by decide) ?_
          refine e_aload_n (pc := 130) C dX8_cutAt_130 0 rfl rfl ?_
          refine e_aload_n (pc := 131) C dX8_cutAt_131 2 rfl rfl ?_
          refine e_aload_n (pc := 132) C dX8_cutAt_132 0 rfl rfl ?_
          refine r_getr (pc := 133) 0 8 3 3 hI C dX8_cutAt_133 (by decide) (by decide) g185 rfl rT0 (by decide) ?_
          refine e_aload_n (pc := 136) C dX8_cutAt_136 0 rfl rfl ?_
          refine r_geti (pc := 137) 0 8 5 hI C dX8_cutAt_137 (by decide) (by decide) g187 rfl rT0 (by decide) ?_
          obtain ⟨q34, hf⟩ := ck_e hf
          refine r_iald (pc := 140) 3 401 hI C dX8_cutAt_140 rT3 (by decide) (ixn_e q34) ?_
          refine e_iload_n (pc := 141) C dX8_cutAt_141 1 rfl rfl ?_
          refine e_iconst (v := (1 : Int32)) (pc := 142) C dX8_cutAt_142 (by decide) ?_
          refine e_iadd (pc := 143) C dX8_cutAt_143 ?_
          obtain ⟨r37, w35, y36, hf⟩ := cw_e hf
          refine e_callVi (pc := 144) (st := [.int (w30.1 0 5), .ref (T + 2)]) 8 C (st_X8_wordIn hI y36) dX8_cutAt_144 (by decide) (hI.1 _ rT0) g658 g660 g3 g147 g661 hd_X8_wordIn rfl ⟨Nat.le_of_ble_eq_true rfl, Nat.le_of_ble_eq_true rfl⟩ ⟨Nat.le_of_ble_eq_true rfl, Nat.le_of_ble_eq_true rfl⟩ rfl (Nat.le_of_ble_eq_true rfl) ?_
          obtain ⟨q38, hf⟩ := ck_e hf
          refine r_iast (pc := 147) 2 401 hI C dX8_cutAt_147 rT2 (by decide) (ixn_e q38) ?_
          obtain ⟨w39, ew39, hf⟩ := nn_e hf
          refine r_hp ew39 ?_
          refine e_goto (pc := 148) (tgt := 211) C dX8_cutAt_148 (by decide) ?_
          obtain rfl := so_e hf
          exact e_vret (pc := 211) C hr dX8_cutAt_211 (Nat.le_of_ble_eq_true rfl) (Nat.le_of_ble_eq_true rfl)
        · refine e_if_ne (pc := 119) (tgt := 211) C dX8_cutAt_119 (by decide) (fun _ => ?_) (fun q => absurd q c33)
          obtain rfl := so_e hf
          exact e_vret (pc := 211) C hr dX8_cutAt_211 (Nat.le_of_ble_eq_true rfl) (Nat.le_of_ble_eq_true rfl)
      rcases it_e hf with ⟨c40, hf⟩ | ⟨c40, hf⟩
      · refine e_if_ne (pc := 98) (tgt := 109) C dX8_cutAt_98 (by decide) (fun q => absurd c40 q) (fun _ => ?_)
        refine e_aload_n (pc := 101) C dX8_cutAt_101 2 rfl rfl ?_
        refine e_sipush (v := (258 : Int32)) (pc := 102) C dX8_cutAt_102 (by decide) ?_
        refine e_iload_n (pc := 105) C dX8_cutAt_105 3 rfl rfl ?_
        obtain ⟨w41, y42, hf⟩ := ob_e hf
        refine e_callVv (pc := 106) (st := []) 8 C (st_X8_put hI y42) dX8_cutAt_106 (by decide) (hI.1 _ rT0) g651 g653 g2 g147 g654 hd_X8_put rfl ⟨Nat.le_of_ble_eq_true rfl, Nat.le_of_ble_eq_true rfl⟩ ⟨Nat.le_of_ble_eq_true rfl, Nat.le_of_ble_eq_true rfl⟩ rfl (Nat.le_of_ble_eq_true rfl) ?_
        refine e_lv (lv2 := [(0, .ref (T + 0)), (1, .int v1), (2, .ref v2)]) [2, 3, 4] rfl ?_
        exact W_109 w41 hf
      · refine e_if_ne (pc := 98) (tgt := 109) C dX8_cutAt_98 (by decide) (fun _ => ?_) (fun q => absurd q c40)
        refine e_lv (lv2 := [(0, .ref (T + 0)), (1, .int v1), (2, .ref v2)]) [2, 3, 4] rfl ?_
        exact W_109 w24 hf
  · refine e_if_eq (pc := 19) (tgt := 86) C dX8_cutAt_19 (by decide) (fun q => absurd q c10) (fun _ => ?_)
    refine e_iload (pc := 22) C dX8_cutAt_22 0 rfl ?_
    obtain ⟨r45, w43, y44, hf⟩ := cw_e hf
    refine e_callSi (pc := 24) (st := []) C (st_X8_isDigit hI y44) dX8_cutAt_24 g648 g649 g147 g650 hd_X8_isDigit rfl ⟨Nat.le_of_ble_eq_true rfl, Nat.le_of_ble_eq_true rfl⟩ ⟨Nat.le_of_ble_eq_true rfl, Nat.le_of_ble_eq_true rfl⟩ rfl (Nat.le_of_ble_eq_true rfl) ?_
    obtain ⟨j_38, ej_38, hf⟩ := nn_e hf
    have W_38 : ∀ (h_38 : MS), j_38 h_38 = some y → EE G p l e ({ frames := 6, cells := 0, slots := 0, locals := 135 } : Room) s m args below meth c (none, rh h T y) 0 0 38 [(0, .ref (T + 0)), (1, .int v1), (3, .int r3)] [] (rh h T h_38) 0 0 := by
      intro h_38 hf
      rw [ej_38] at hf
      refine e_aload_n (pc := 38) C dX8_cutAt_38 0 rfl rfl ?_
      refine r_getr (pc := 39) 0 8 4 4 hI C dX8_cutAt_39 (by decide) (by decide) g186 rfl rT0 (by decide) ?_
      refine e_aload_n (pc := 42) C dX8_cutAt_42 0 rfl rfl ?_
      refine r_geti (pc := 43) 0 8 5 hI C dX8_cutAt_43 (by decide) (by decide) g187 rfl rT0 (by decide) ?_
      refine e_iload_n (pc := 46) C dX8_cutAt_46 1 rfl rfl ?_
      refine e_aload_n (pc := 47) C dX8_cutAt_47 0 rfl rfl ?_
      refine r_getr (pc := 48) 0 8 3 3 hI C dX8_cutAt_48 (by decide) (by decide) g185 rfl rT0 (by decide) ?_
      refine e_aload_n (pc := 51) C dX8_cutAt_51 0 rfl rfl ?_
      refine r_geti (pc := 52) 0 8 5 hI C dX8_cutAt_52 (by decide) (by decide) g187 rfl rT0 (by decide) ?_
      obtain ⟨q46, hf⟩ := ck_e hf
      refine r_iald (pc := 55) 3 401 hI C dX8_cutAt_55 rT3 (by decide) (ixn_e q46) ?_
      refine e_isub (pc := 56) C dX8_cutAt_56 ?_
      refine e_iconst (v := (5 : Int32)) (pc := 57) C dX8_cutAt_57 (by decide) ?_
      obtain ⟨j_82, ej_82, hf⟩ := nn_e hf
      have W_82 : ∀ (s0_82 : Int32), j_82 s0_82 = some y → EE G p l e ({ frames := 6, cells := 0, slots := 0, locals := 135 } : Room) s m args below meth c (none, rh h T y) 0 0 82 [] [.int s0_82, .int (h_38.1 0 5), .ref (T + 4)] (rh h T h_38) 0 0 := by
        intro s0_82 hf
        rw [ej_82] at hf
        obtain ⟨q47, hf⟩ := ck_e hf
        refine r_iast (pc := 82) 4 401 hI C dX8_cutAt_82 rT4 (by decide) (ixn_e q47) ?_
        obtain ⟨w48, ew48, hf⟩ := nn_e hf
        refine r_hp ew48 ?_
        refine e_goto (pc := 83) (tgt := 211) C dX8_cutAt_83 (by decide) ?_
        obtain rfl := so_e hf
        exact e_vret (pc := 211) C hr dX8_cutAt_211 (Nat.le_of_ble_eq_true rfl) (Nat.le_of_ble_eq_true rfl)
      rcases it_e hf with ⟨c49, hf⟩ | ⟨c49, hf⟩
      · refine e_icmp_ge (pc := 58) (tgt := 81) C dX8_cutAt_58 (by decide) (fun _ => ?_) (fun q => absurd c49 q)
        refine e_iconst (v := (-1 : Int32)) (pc := 81) C dX8_cutAt_81 (by decide) ?_
        refine e_lv (lv2 := []) [] rfl ?_
        exact W_82 (-1 : Int32) hf
      · refine e_icmp_ge (pc := 58) (tgt := 81) C dX8_cutAt_58 (by decide) (fun q => absurd q c49) (fun _ => ?_)
        refine e_aload_n (pc := 61) C dX8_cutAt_61 0 rfl rfl ?_
        refine r_getr (pc := 62) 0 8 4 4 hI C dX8_cutAt_62 (by decide) (by decide) g186 rfl rT0 (by decide) ?_
        refine e_aload_n (pc := 65) C dX8_cutAt_65 0 rfl rfl ?_
        refine r_geti (pc := 66) 0 8 5 hI C dX8_cutAt_66 (by decide) (by decide) g187 rfl rT0 (by decide) ?_
        obtain ⟨q50, hf⟩ := ck_e hf
        refine r_iald (pc := 69) 4 401 hI C dX8_cutAt_69 rT4 (by decide) (ixn_e q50) ?_
        refine e_bipush (v := (10 : Int32)) (pc := 70) C dX8_cutAt_70 (by decide) ?_
        refine e_imul (pc := 72) C dX8_cutAt_72 ?_
        refine e_iload_n (pc := 73) C dX8_cutAt_73 2 rfl rfl ?_
        refine e_iadd (pc := 74) C dX8_cutAt_74 ?_
        refine e_bipush (v := (48 : Int32)) (pc := 75) C dX8_cutAt_75 (by decide) ?_
        refine e_isub (pc := 77) C dX8_cutAt_77 ?_
        refine e_goto (pc := 78) (tgt := 82) C dX8_cutAt_78 (by decide) ?_
        refine e_lv (lv2 := []) [] rfl ?_
        exact W_82 ((((h_38.1 4 (h_38.1 0 5).toNatClampNeg) * (10 : Int32)) + r3) - (48 : Int32)) hf
    rcases it_e hf with ⟨c51, hf⟩ | ⟨c51, hf⟩
    · refine e_if_ne (pc := 27) (tgt := 38) C dX8_cutAt_27 (by decide) (fun q => absurd c51 q) (fun _ => ?_)
      refine e_aload_n (pc := 30) C dX8_cutAt_30 2 rfl rfl ?_
      refine e_sipush (v := (256 : Int32)) (pc := 31) C dX8_cutAt_31 (by decide) ?_
      refine e_iload_n (pc := 34) C dX8_cutAt_34 3 rfl rfl ?_
      obtain ⟨w52, y53, hf⟩ := ob_e hf
      refine e_callVv (pc := 35) (st := []) 8 C (st_X8_put hI y53) dX8_cutAt_35 (by decide) (hI.1 _ rT0) g651 g653 g2 g147 g654 hd_X8_put rfl ⟨Nat.le_of_ble_eq_true rfl, Nat.le_of_ble_eq_true rfl⟩ ⟨Nat.le_of_ble_eq_true rfl, Nat.le_of_ble_eq_true rfl⟩ rfl (Nat.le_of_ble_eq_true rfl) ?_
      refine e_lv (lv2 := [(0, .ref (T + 0)), (1, .int v1), (3, .int r3)]) [2, 3, 1] rfl ?_
      exact W_38 w52 hf
    · refine e_if_ne (pc := 27) (tgt := 38) C dX8_cutAt_27 (by decide) (fun _ => ?_) (fun q => absurd q c51)
      refine e_lv (lv2 := [(0, .ref (T + 0)), (1, .int v1), (3, .int r3)]) [2, 3, 1] rfl ?_
      exact W_38 w43 hf
theorem dX8_advance_0 : decode cX8_advance 0 = .ok (.aload_n 0, 1) := by decide +kernel
theorem dX8_advance_1 : decode cX8_advance 1 = .ok (.getfield 32, 3) := by decide +kernel
theorem dX8_advance_4 : decode cX8_advance 4 = .ok (.aload_n 0, 1) := by decide +kernel
theorem dX8_advance_5 : decode cX8_advance 5 = .ok (.getfield 29, 3) := by decide +kernel
theorem dX8_advance_8 : decode cX8_advance 8 = .ok (.if_icmp .ge 39, 3) := by decide +kernel
theorem dX8_advance_11 : decode cX8_advance 11 = .ok (.aload_n 0, 1) := by decide +kernel
theorem dX8_advance_12 : decode cX8_advance 12 = .ok (.dup, 1) := by decide +kernel
theorem dX8_advance_13 : decode cX8_advance 13 = .ok (.getfield 32, 3) := by decide +kernel
theorem dX8_advance_16 : decode cX8_advance 16 = .ok (.iconst 1, 1) := by decide +kernel
theorem dX8_advance_17 : decode cX8_advance 17 = .ok (.iadd, 1) := by decide +kernel
theorem dX8_advance_18 : decode cX8_advance 18 = .ok (.putfield 32, 3) := by decide +kernel
theorem dX8_advance_21 : decode cX8_advance 21 = .ok (.aload_n 0, 1) := by decide +kernel
theorem dX8_advance_22 : decode cX8_advance 22 = .ok (.aload_n 0, 1) := by decide +kernel
theorem dX8_advance_23 : decode cX8_advance 23 = .ok (.getfield 19, 3) := by decide +kernel
theorem dX8_advance_26 : decode cX8_advance 26 = .ok (.aload_n 0, 1) := by decide +kernel
theorem dX8_advance_27 : decode cX8_advance 27 = .ok (.getfield 32, 3) := by decide +kernel
theorem dX8_advance_30 : decode cX8_advance 30 = .ok (.iaload, 1) := by decide +kernel
theorem dX8_advance_31 : decode cX8_advance 31 = .ok (.putfield 35, 3) := by decide +kernel
theorem dX8_advance_34 : decode cX8_advance 34 = .ok (.aload_n 0, 1) := by decide +kernel
theorem dX8_advance_35 : decode cX8_advance 35 = .ok (.aload_n 0, 1) := by decide +kernel
theorem dX8_advance_36 : decode cX8_advance 36 = .ok (.getfield 26, 3) := by decide +kernel
theorem dX8_advance_39 : decode cX8_advance 39 = .ok (.aload_n 0, 1) := by decide +kernel
theorem dX8_advance_40 : decode cX8_advance 40 = .ok (.getfield 32, 3) := by decide +kernel
theorem dX8_advance_43 : decode cX8_advance 43 = .ok (.iaload, 1) := by decide +kernel
theorem dX8_advance_44 : decode cX8_advance 44 = .ok (.putfield 38, 3) := by decide +kernel
theorem dX8_advance_47 : decode cX8_advance 47 = .ok (.return_, 1) := by decide +kernel
def s_X8_advance (G : GG) (w : MS) : Option (MS) :=
if (w.1 0 5) ≤ (w.1 0 6) then (some w) else
nn (w_si w 0 6 ((w.1 0 6) + (1 : Int32))) fun w2 =>
ck (ixn 401 (w2.1 0 6) = true) <|
nn (w_si w2 0 7 (w2.1 2 (w2.1 0 6).toNatClampNeg)) fun w4 =>
ck (ixn 401 (w4.1 0 6) = true) <|
nn (w_si w4 0 8 (w4.1 4 (w4.1 0 6).toNatClampNeg)) fun w6 =>
some w6
set_option maxHeartbeats 4000000 in
set_option maxRecDepth 100000 in
theorem st_X8_advance {G : GG} {l : Launch} {T : Nat} {h : AH} (hI : RI h T) {w : MS} {y : MS} (hf : s_X8_advance G w = some y) : Ct G l yX8_advance cX8_advance 1 none 0 0 0 0 [.ref (T + 0)] (rh h T w) (none, rh h T y) := by
  refine ct_of (by decide) (Nat.le_of_ble_eq_true rfl) ?_
  intro p e s m args below meth c C hm hr hin
  have C : Cx G cX8_advance RX8 p s m args meth c := C
  refine e_lv (lv2 := [(0, .ref (T + 0))]) [0] rfl ?_
  unfold s_X8_advance at hf
  refine e_aload_n (pc := 0) C dX8_advance_0 0 rfl rfl ?_
  refine r_geti (pc := 1) 0 8 6 hI C dX8_advance_1 (by decide) (by decide) g188 rfl rT0 (by decide) ?_
  refine e_aload_n (pc := 4) C dX8_advance_4 0 rfl rfl ?_
  refine r_geti (pc := 5) 0 8 5 hI C dX8_advance_5 (by decide) (by decide) g187 rfl rT0 (by decide) ?_
  rcases it_e hf with ⟨c1, hf⟩ | ⟨c1, hf⟩
  · refine e_icmp_ge (pc := 8) (tgt := 47) C dX8_advance_8 (by decide) (fun _ => ?_) (fun q => absurd c1 q)
    obtain rfl := so_e hf
    exact e_vret (pc := 47) C hr dX8_advance_47 (Nat.le_of_ble_eq_true rfl) (Nat.le_of_ble_eq_true rfl)
  · refine e_icmp_ge (pc := 8) (tgt := 47) C dX8_advance_8 (by decide) (fun q => absurd q c1) (fun _ => ?_)
    refine e_aload_n (pc := 11) C dX8_advance_11 0 rfl rfl ?_
    refine e_dup (pc := 12) C dX8_advance_12 rfl ?_
    refine r_geti (pc := 13) 0 8 6 hI C dX8_advance_13 (by decide) (by decide) g188 rfl rT0 (by decide) ?_
    refine e_iconst (v := (1 : Int32)) (pc := 16) C dX8_advance_16 (by decide) ?_
    refine e_iadd (pc := 17) C dX8_advance_17 ?_
    refine r_puti (pc := 18) 0 8 6 hI C dX8_advance_18 (by decide) (by decide) g188 rfl rfl rfl rfl rT0 (by decide) ?_
    obtain ⟨w2, ew2, hf⟩ := nn_e hf
    refine r_hp ew2 ?_
    refine e_aload_n (pc := 21) C dX8_advance_21 0 rfl rfl ?_
    refine e_aload_n (pc := 22) C dX8_advance_22 0 rfl rfl ?_
    refine r_getr (pc := 23) 0 8 2 2 hI C dX8_advance_23 (by decide) (by decide) g184 rfl rT0 (by decide) ?_
    refine e_aload_n (pc := 26) C dX8_advance_26 0 rfl rfl ?_
    refine r_geti (pc := 27) 0 8 6 hI C dX8_advance_27 (by decide) (by decide) g188 rfl rT0 (by decide) ?_
    obtain ⟨q3, hf⟩ := ck_e hf
    refine r_iald (pc := 30) 2 401 hI C dX8_advance_30 rT2 (by decide) (ixn_e q3) ?_
    refine r_puti (pc := 31) 0 8 7 hI C dX8_advance_31 (by decide) (by decide) g189 rfl rfl rfl rfl rT0 (by decide) ?_
    obtain ⟨w4, ew4, hf⟩ := nn_e hf
    refine r_hp ew4 ?_
    refine e_aload_n (pc := 34) C dX8_advance_34 0 rfl rfl ?_
    refine e_aload_n (pc := 35) C dX8_advance_35 0 rfl rfl ?_
    refine r_getr (pc := 36) 0 8 4 4 hI C dX8_advance_36 (by decide) (by decide) g186 rfl rT0 (by decide) ?_
    refine e_aload_n (pc := 39) C dX8_advance_39 0 rfl rfl ?_
    refine r_geti (pc := 40) 0 8 6 hI C dX8_advance_40 (by decide) (by decide) g188 rfl rT0 (by decide) ?_
    obtain ⟨q5, hf⟩ := ck_e hf
    refine r_iald (pc := 43) 4 401 hI C dX8_advance_43 rT4 (by decide) (ixn_e q5) ?_
    refine r_puti (pc := 44) 0 8 8 hI C dX8_advance_44 (by decide) (by decide) g192 rfl rfl rfl rfl rT0 (by decide) ?_
    obtain ⟨w6, ew6, hf⟩ := nn_e hf
    refine r_hp ew6 ?_
    obtain rfl := so_e hf
    exact e_vret (pc := 47) C hr dX8_advance_47 (Nat.le_of_ble_eq_true rfl) (Nat.le_of_ble_eq_true rfl)
theorem dX8_open_0 : decode cX8_open 0 = .ok (.aload_n 0, 1) := by decide +kernel
theorem dX8_open_1 : decode cX8_open 1 = .ok (.iconst (-1), 1) := by decide +kernel
theorem dX8_open_2 : decode cX8_open 2 = .ok (.putfield 29, 3) := by decide +kernel
theorem dX8_open_5 : decode cX8_open 5 = .ok (.iconst 0, 1) := by decide +kernel
theorem dX8_open_6 : decode cX8_open 6 = .ok (.istore_n 2, 1) := by decide +kernel
theorem dX8_open_7 : decode cX8_open 7 = .ok (.iload_n 2, 1) := by decide +kernel
theorem dX8_open_8 : decode cX8_open 8 = .ok (.aload_n 0, 1) := by decide +kernel
theorem dX8_open_9 : decode cX8_open 9 = .ok (.getfield 15, 3) := by decide +kernel
theorem dX8_open_12 : decode cX8_open 12 = .ok (.if_icmp .ge 15, 3) := by decide +kernel
theorem dX8_open_15 : decode cX8_open 15 = .ok (.aload_n 0, 1) := by decide +kernel
theorem dX8_open_16 : decode cX8_open 16 = .ok (.iload_n 2, 1) := by decide +kernel
theorem dX8_open_17 : decode cX8_open 17 = .ok (.aload_n 1, 1) := by decide +kernel
theorem dX8_open_18 : decode cX8_open 18 = .ok (.invokevirtual 44, 3) := by decide +kernel
theorem dX8_open_21 : decode cX8_open 21 = .ok (.iinc 2 1, 3) := by decide +kernel
theorem dX8_open_24 : decode cX8_open 24 = .ok (.goto (-17), 3) := by decide +kernel
theorem dX8_open_27 : decode cX8_open 27 = .ok (.aload_n 0, 1) := by decide +kernel
theorem dX8_open_28 : decode cX8_open 28 = .ok (.sipush 257, 3) := by decide +kernel
theorem dX8_open_31 : decode cX8_open 31 = .ok (.aload_n 0, 1) := by decide +kernel
theorem dX8_open_32 : decode cX8_open 32 = .ok (.getfield 15, 3) := by decide +kernel
theorem dX8_open_35 : decode cX8_open 35 = .ok (.invokevirtual 48, 3) := by decide +kernel
theorem dX8_open_38 : decode cX8_open 38 = .ok (.aload_n 0, 1) := by decide +kernel
theorem dX8_open_39 : decode cX8_open 39 = .ok (.iconst 0, 1) := by decide +kernel
theorem dX8_open_40 : decode cX8_open 40 = .ok (.putfield 41, 3) := by decide +kernel
theorem dX8_open_43 : decode cX8_open 43 = .ok (.aload_n 0, 1) := by decide +kernel
theorem dX8_open_44 : decode cX8_open 44 = .ok (.iconst (-1), 1) := by decide +kernel
theorem dX8_open_45 : decode cX8_open 45 = .ok (.putfield 32, 3) := by decide +kernel
theorem dX8_open_48 : decode cX8_open 48 = .ok (.aload_n 0, 1) := by decide +kernel
theorem dX8_open_49 : decode cX8_open 49 = .ok (.invokevirtual 52, 3) := by decide +kernel
theorem dX8_open_52 : decode cX8_open 52 = .ok (.return_, 1) := by decide +kernel
def S_X8_open_7 (G : GG) (v1 : Nat) (K_27 : MS → Option (MS)) (self_7 : Int32 → MS → Option (MS)) (v2 : Int32) (w : MS) : Option (MS) :=
if (w.1 0 1) ≤ v2 then (K_27 w) else
ob (s_X8_cutAt G v2 v1 w) fun w3 =>
nn (v2 + (1 : Int32)) fun x5 =>
self_7 x5 w3
def s_X8_open (G : GG) (v1 : Nat) (w : MS) : Option (MS) :=
nn (w_si w 0 5 (-1 : Int32)) fun w1 =>
lw1 (S_X8_open_7 G v1 (fun (h_27 : MS) => (ob (s_X8_put G (257 : Int32) (h_27.1 0 1) h_27) fun w6 =>
nn (w_si w6 0 9 (0 : Int32)) fun w8 =>
nn (w_si w8 0 6 (-1 : Int32)) fun w9 =>
ob (s_X8_advance G w9) fun w10 =>
some w10))) bN (0 : Int32) w1
set_option maxHeartbeats 4000000 in
set_option maxRecDepth 100000 in
theorem es_X8_open_7 {G : GG} {p : Program} {l : Launch} {e : Env} {s : State} {m : MethodId} {args : Array Value} {below : List Frame} {meth : Method} {c : Code} {y : MS} {T : Nat} {h : AH} (hI : RI h T) (C : Cx G cX8_open RX8 p s m args meth c) (hm : c.maxLocals = 3) (hr : meth.sig.returnType = none) (hin : meth.name = yX8_open.name) {v1 : Nat} {K_27 : MS → Option (MS)} (hK_27 : ∀ (w : MS), K_27 w = some y → EE G p l e ({ frames := 7, cells := 0, slots := 0, locals := 159 } : Room) s m args below meth c (none, rh h T y) 0 0 27 [(0, .ref (T + 0))] [] (rh h T w) 0 0) :
    ∀ (n : Nat) (v2 : Int32) (w : MS), lw1 (S_X8_open_7 G v1 K_27) n v2 w = some y → EE G p l e ({ frames := 7, cells := 0, slots := 0, locals := 159 } : Room) s m args below meth c (none, rh h T y) 0 0 7 [(0, .ref (T + 0)), (1, .ref v1), (2, .int v2)] [] (rh h T w) 0 0 := by
  intro n
  induction n with
  | zero => intro v2 w hf; exact (no_e hf).elim
  | succ n ih_7 =>
    intro v2 w hf
    have hf : S_X8_open_7 G v1 K_27 (lw1 (S_X8_open_7 G v1 K_27) n) v2 w = some y := hf
    generalize lw1 (S_X8_open_7 G v1 K_27) n = self_7 at hf ih_7
    unfold S_X8_open_7 at hf
    refine e_iload_n (pc := 7) C dX8_open_7 2 rfl rfl ?_
    refine e_aload_n (pc := 8) C dX8_open_8 0 rfl rfl ?_
    refine r_geti (pc := 9) 0 8 1 hI C dX8_open_9 (by decide) (by decide) g182 rfl rT0 (by decide) ?_
    rcases it_e hf with ⟨c2, hf⟩ | ⟨c2, hf⟩
    · refine e_icmp_ge (pc := 12) (tgt := 27) C dX8_open_12 (by decide) (fun _ => ?_) (fun q => absurd c2 q)
      refine e_lv (lv2 := [(0, .ref (T + 0))]) [0] rfl ?_
      exact hK_27 w hf
    · refine e_icmp_ge (pc := 12) (tgt := 27) C dX8_open_12 (by decide) (fun q => absurd q c2) (fun _ => ?_)
      refine e_aload_n (pc := 15) C dX8_open_15 0 rfl rfl ?_
      refine e_iload_n (pc := 16) C dX8_open_16 2 rfl rfl ?_
      refine e_aload_n (pc := 17) C dX8_open_17 1 rfl rfl ?_
      obtain ⟨w3, y4, hf⟩ := ob_e hf
      refine e_callVv (pc := 18) (st := []) 8 C (st_X8_cutAt hI y4) dX8_open_18 (by decide) (hI.1 _ rT0) g640 g642 g0 g147 g643 hd_X8_cutAt rfl ⟨Nat.le_of_ble_eq_true rfl, Nat.le_of_ble_eq_true rfl⟩ ⟨Nat.le_of_ble_eq_true rfl, Nat.le_of_ble_eq_true rfl⟩ rfl (Nat.le_of_ble_eq_true rfl) ?_
      obtain ⟨x5, ex5, hf⟩ := nn_e hf
      refine e_iinc (pc := 21) (v := x5) (lv2 := [(2, .int x5), (0, .ref (T + 0)), (1, .ref v1)]) C hm dX8_open_21 2 rfl (by rw [ex5]; rfl) (by decide) rfl ?_
      refine e_goto (pc := 24) (tgt := 7) C dX8_open_24 (by decide) ?_
      refine e_lv (lv2 := [(0, .ref (T + 0)), (1, .ref v1), (2, .int x5)]) [1, 2, 0] rfl ?_
      exact ih_7 x5 w3 hf
set_option maxHeartbeats 4000000 in
set_option maxRecDepth 100000 in
theorem st_X8_open {G : GG} {l : Launch} {T : Nat} {h : AH} (hI : RI h T) {v1 : Nat} {w : MS} {y : MS} (hf : s_X8_open G v1 w = some y) : Ct G l yX8_open cX8_open 3 none 7 159 0 0 [.ref (T + 0), .ref v1] (rh h T w) (none, rh h T y) := by
  refine ct_of (by decide) (Nat.le_of_ble_eq_true rfl) ?_
  intro p e s m args below meth c C hm hr hin
  have C : Cx G cX8_open RX8 p s m args meth c := C
  refine e_lv (lv2 := [(0, .ref (T + 0)), (1, .ref v1)]) [0, 1] rfl ?_
  unfold s_X8_open at hf
  refine e_aload_n (pc := 0) C dX8_open_0 0 rfl rfl ?_
  refine e_iconst (v := (-1 : Int32)) (pc := 1) C dX8_open_1 (by decide) ?_
  refine r_puti (pc := 2) 0 8 5 hI C dX8_open_2 (by decide) (by decide) g187 rfl rfl rfl rfl rT0 (by decide) ?_
  obtain ⟨w1, ew1, hf⟩ := nn_e hf
  refine r_hp ew1 ?_
  refine e_iconst (v := (0 : Int32)) (pc := 5) C dX8_open_5 (by decide) ?_
  refine e_istore_n (pc := 6) (lv2 := [(2, .int (0 : Int32)), (0, .ref (T + 0)), (1, .ref v1)]) C hm dX8_open_6 rfl (by decide) rfl ?_
  refine e_lv (lv2 := [(0, .ref (T + 0)), (1, .ref v1), (2, .int (0 : Int32))]) [1, 2, 0] rfl ?_
  refine es_X8_open_7 hI C hm hr hin (fun h_27 hf => ?_) bN (0 : Int32) w1 hf
  refine e_aload_n (pc := 27) C dX8_open_27 0 rfl rfl ?_
  refine e_sipush (v := (257 : Int32)) (pc := 28) C dX8_open_28 (by decide) ?_
  refine e_aload_n (pc := 31) C dX8_open_31 0 rfl rfl ?_
  refine r_geti (pc := 32) 0 8 1 hI C dX8_open_32 (by decide) (by decide) g182 rfl rT0 (by decide) ?_
  obtain ⟨w6, y7, hf⟩ := ob_e hf
  refine e_callVv (pc := 35) (st := []) 8 C (st_X8_put hI y7) dX8_open_35 (by decide) (hI.1 _ rT0) g651 g653 g2 g147 g654 hd_X8_put rfl ⟨Nat.le_of_ble_eq_true rfl, Nat.le_of_ble_eq_true rfl⟩ ⟨Nat.le_of_ble_eq_true rfl, Nat.le_of_ble_eq_true rfl⟩ rfl (Nat.le_of_ble_eq_true rfl) ?_
  refine e_aload_n (pc := 38) C dX8_open_38 0 rfl rfl ?_
  refine e_iconst (v := (0 : Int32)) (pc := 39) C dX8_open_39 (by decide) ?_
  refine r_puti (pc := 40) 0 8 9 hI C dX8_open_40 (by decide) (by decide) g194 rfl rfl rfl rfl rT0 (by decide) ?_
  obtain ⟨w8, ew8, hf⟩ := nn_e hf
  refine r_hp ew8 ?_
  refine e_aload_n (pc := 43) C dX8_open_43 0 rfl rfl ?_
  refine e_iconst (v := (-1 : Int32)) (pc := 44) C dX8_open_44 (by decide) ?_
  refine r_puti (pc := 45) 0 8 6 hI C dX8_open_45 (by decide) (by decide) g188 rfl rfl rfl rfl rT0 (by decide) ?_
  obtain ⟨w9, ew9, hf⟩ := nn_e hf
  refine r_hp ew9 ?_
  refine e_aload_n (pc := 48) C dX8_open_48 0 rfl rfl ?_
  obtain ⟨w10, y11, hf⟩ := ob_e hf
  refine e_callVv (pc := 49) (st := []) 8 C (st_X8_advance hI y11) dX8_open_49 (by decide) (hI.1 _ rT0) g714 g715 g716 g147 g717 hd_X8_advance rfl ⟨Nat.le_of_ble_eq_true rfl, Nat.le_of_ble_eq_true rfl⟩ ⟨Nat.le_of_ble_eq_true rfl, Nat.le_of_ble_eq_true rfl⟩ rfl (Nat.le_of_ble_eq_true rfl) ?_
  obtain rfl := so_e hf
  exact e_vret (pc := 52) C hr dX8_open_52 (Nat.le_of_ble_eq_true rfl) (Nat.le_of_ble_eq_true rfl)
theorem dX8_fail_0 : decode cX8_fail 0 = .ok (.aload_n 0, 1) := by decide +kernel
theorem dX8_fail_1 : decode cX8_fail 1 = .ok (.getfield 41, 3) := by decide +kernel
theorem dX8_fail_4 : decode cX8_fail 4 = .ok (.ifCond .ne 23, 3) := by decide +kernel
theorem dX8_fail_7 : decode cX8_fail 7 = .ok (.aload_n 0, 1) := by decide +kernel
theorem dX8_fail_8 : decode cX8_fail 8 = .ok (.iconst 1, 1) := by decide +kernel
theorem dX8_fail_9 : decode cX8_fail 9 = .ok (.bipush 8, 2) := by decide +kernel
theorem dX8_fail_11 : decode cX8_fail 11 = .ok (.aload_n 0, 1) := by decide +kernel
theorem dX8_fail_12 : decode cX8_fail 12 = .ok (.getfield 23, 3) := by decide +kernel
theorem dX8_fail_15 : decode cX8_fail 15 = .ok (.aload_n 0, 1) := by decide +kernel
theorem dX8_fail_16 : decode cX8_fail 16 = .ok (.getfield 32, 3) := by decide +kernel
theorem dX8_fail_19 : decode cX8_fail 19 = .ok (.iaload, 1) := by decide +kernel
theorem dX8_fail_20 : decode cX8_fail 20 = .ok (.imul, 1) := by decide +kernel
theorem dX8_fail_21 : decode cX8_fail 21 = .ok (.iadd, 1) := by decide +kernel
theorem dX8_fail_22 : decode cX8_fail 22 = .ok (.iload_n 1, 1) := by decide +kernel
theorem dX8_fail_23 : decode cX8_fail 23 = .ok (.iadd, 1) := by decide +kernel
theorem dX8_fail_24 : decode cX8_fail 24 = .ok (.putfield 41, 3) := by decide +kernel
theorem dX8_fail_27 : decode cX8_fail 27 = .ok (.return_, 1) := by decide +kernel
def s_X8_fail (G : GG) (v1 : Int32) (w : MS) : Option (MS) :=
if (w.1 0 9) = 0 then (ck (ixn 401 (w.1 0 6) = true) <|
nn (w_si w 0 9 (((1 : Int32) + ((8 : Int32) * (w.1 3 (w.1 0 6).toNatClampNeg))) + v1)) fun w3 =>
some w3) else
some w
set_option maxHeartbeats 4000000 in
set_option maxRecDepth 100000 in
theorem st_X8_fail {G : GG} {l : Launch} {T : Nat} {h : AH} (hI : RI h T) {v1 : Int32} {w : MS} {y : MS} (hf : s_X8_fail G v1 w = some y) : Ct G l yX8_fail cX8_fail 2 none 0 0 0 0 [.ref (T + 0), .int v1] (rh h T w) (none, rh h T y) := by
  refine ct_of (by decide) (Nat.le_of_ble_eq_true rfl) ?_
  intro p e s m args below meth c C hm hr hin
  have C : Cx G cX8_fail RX8 p s m args meth c := C
  refine e_lv (lv2 := [(0, .ref (T + 0)), (1, .int v1)]) [0, 1] rfl ?_
  unfold s_X8_fail at hf
  refine e_aload_n (pc := 0) C dX8_fail_0 0 rfl rfl ?_
  refine r_geti (pc := 1) 0 8 9 hI C dX8_fail_1 (by decide) (by decide) g194 rfl rT0 (by decide) ?_
  rcases it_e hf with ⟨c1, hf⟩ | ⟨c1, hf⟩
  · refine e_if_ne (pc := 4) (tgt := 27) C dX8_fail_4 (by decide) (fun q => absurd c1 q) (fun _ => ?_)
    refine e_aload_n (pc := 7) C dX8_fail_7 0 rfl rfl ?_
    refine e_iconst (v := (1 : Int32)) (pc := 8) C dX8_fail_8 (by decide) ?_
    refine e_bipush (v := (8 : Int32)) (pc := 9) C dX8_fail_9 (by decide) ?_
    refine e_aload_n (pc := 11) C dX8_fail_11 0 rfl rfl ?_
    refine r_getr (pc := 12) 0 8 3 3 hI C dX8_fail_12 (by decide) (by decide) g185 rfl rT0 (by decide) ?_
    refine e_aload_n (pc := 15) C dX8_fail_15 0 rfl rfl ?_
    refine r_geti (pc := 16) 0 8 6 hI C dX8_fail_16 (by decide) (by decide) g188 rfl rT0 (by decide) ?_
    obtain ⟨q2, hf⟩ := ck_e hf
    refine r_iald (pc := 19) 3 401 hI C dX8_fail_19 rT3 (by decide) (ixn_e q2) ?_
    refine e_imul (pc := 20) C dX8_fail_20 ?_
    refine e_iadd (pc := 21) C dX8_fail_21 ?_
    refine e_iload_n (pc := 22) C dX8_fail_22 1 rfl rfl ?_
    refine e_iadd (pc := 23) C dX8_fail_23 ?_
    refine r_puti (pc := 24) 0 8 9 hI C dX8_fail_24 (by decide) (by decide) g194 rfl rfl rfl rfl rT0 (by decide) ?_
    obtain ⟨w3, ew3, hf⟩ := nn_e hf
    refine r_hp ew3 ?_
    obtain rfl := so_e hf
    exact e_vret (pc := 27) C hr dX8_fail_27 (Nat.le_of_ble_eq_true rfl) (Nat.le_of_ble_eq_true rfl)
  · refine e_if_ne (pc := 4) (tgt := 27) C dX8_fail_4 (by decide) (fun _ => ?_) (fun q => absurd q c1)
    obtain rfl := so_e hf
    exact e_vret (pc := 27) C hr dX8_fail_27 (Nat.le_of_ble_eq_true rfl) (Nat.le_of_ble_eq_true rfl)
theorem dX8_takeNumber_0 : decode cX8_takeNumber 0 = .ok (.aload_n 0, 1) := by decide +kernel
theorem dX8_takeNumber_1 : decode cX8_takeNumber 1 = .ok (.getfield 35, 3) := by decide +kernel
theorem dX8_takeNumber_4 : decode cX8_takeNumber 4 = .ok (.sipush 256, 3) := by decide +kernel
theorem dX8_takeNumber_7 : decode cX8_takeNumber 7 = .ok (.if_icmp .eq 11, 3) := by decide +kernel
theorem dX8_takeNumber_10 : decode cX8_takeNumber 10 = .ok (.aload_n 0, 1) := by decide +kernel
theorem dX8_takeNumber_11 : decode cX8_takeNumber 11 = .ok (.iconst 0, 1) := by decide +kernel
theorem dX8_takeNumber_12 : decode cX8_takeNumber 12 = .ok (.invokevirtual 55, 3) := by decide +kernel
theorem dX8_takeNumber_15 : decode cX8_takeNumber 15 = .ok (.goto 24, 3) := by decide +kernel
theorem dX8_takeNumber_18 : decode cX8_takeNumber 18 = .ok (.aload_n 0, 1) := by decide +kernel
theorem dX8_takeNumber_19 : decode cX8_takeNumber 19 = .ok (.getfield 38, 3) := by decide +kernel
theorem dX8_takeNumber_22 : decode cX8_takeNumber 22 = .ok (.iload_n 1, 1) := by decide +kernel
theorem dX8_takeNumber_23 : decode cX8_takeNumber 23 = .ok (.if_icmp .lt 11, 3) := by decide +kernel
theorem dX8_takeNumber_26 : decode cX8_takeNumber 26 = .ok (.aload_n 0, 1) := by decide +kernel
theorem dX8_takeNumber_27 : decode cX8_takeNumber 27 = .ok (.getfield 38, 3) := by decide +kernel
theorem dX8_takeNumber_30 : decode cX8_takeNumber 30 = .ok (.iload_n 2, 1) := by decide +kernel
theorem dX8_takeNumber_31 : decode cX8_takeNumber 31 = .ok (.if_icmp .le 8, 3) := by decide +kernel
theorem dX8_takeNumber_34 : decode cX8_takeNumber 34 = .ok (.aload_n 0, 1) := by decide +kernel
theorem dX8_takeNumber_35 : decode cX8_takeNumber 35 = .ok (.iconst 1, 1) := by decide +kernel
theorem dX8_takeNumber_36 : decode cX8_takeNumber 36 = .ok (.invokevirtual 55, 3) := by decide +kernel
theorem dX8_takeNumber_39 : decode cX8_takeNumber 39 = .ok (.aload_n 0, 1) := by decide +kernel
theorem dX8_takeNumber_40 : decode cX8_takeNumber 40 = .ok (.getfield 41, 3) := by decide +kernel
theorem dX8_takeNumber_43 : decode cX8_takeNumber 43 = .ok (.ifCond .eq 5, 3) := by decide +kernel
theorem dX8_takeNumber_46 : decode cX8_takeNumber 46 = .ok (.iconst (-1), 1) := by decide +kernel
theorem dX8_takeNumber_47 : decode cX8_takeNumber 47 = .ok (.ireturn, 1) := by decide +kernel
theorem dX8_takeNumber_48 : decode cX8_takeNumber 48 = .ok (.aload_n 0, 1) := by decide +kernel
theorem dX8_takeNumber_49 : decode cX8_takeNumber 49 = .ok (.getfield 38, 3) := by decide +kernel
theorem dX8_takeNumber_52 : decode cX8_takeNumber 52 = .ok (.istore_n 3, 1) := by decide +kernel
theorem dX8_takeNumber_53 : decode cX8_takeNumber 53 = .ok (.aload_n 0, 1) := by decide +kernel
theorem dX8_takeNumber_54 : decode cX8_takeNumber 54 = .ok (.invokevirtual 52, 3) := by decide +kernel
theorem dX8_takeNumber_57 : decode cX8_takeNumber 57 = .ok (.iload_n 3, 1) := by decide +kernel
theorem dX8_takeNumber_58 : decode cX8_takeNumber 58 = .ok (.ireturn, 1) := by decide +kernel
def s_X8_takeNumber (G : GG) (v1 : Int32) (v2 : Int32) (w : MS) : Option (Int32 × MS) :=
nn (fun (h_39 : MS) => (if (h_39.1 0 9) = 0 then (nn (h_39.1 0 8) fun x2 =>
ob (s_X8_advance G h_39) fun w3 =>
some (x2, w3)) else
some ((-1 : Int32), h_39))) fun j_39 =>
if (w.1 0 7) = (256 : Int32) then (nn (fun (uu_34 : Unit) => (ob (s_X8_fail G (1 : Int32) w) fun w6 =>
j_39 w6)) fun j_34 =>
if (w.1 0 8) < v1 then (j_34 ()) else
if (w.1 0 8) ≤ v2 then (j_39 w) else
j_34 ()) else
ob (s_X8_fail G (0 : Int32) w) fun w10 =>
j_39 w10
set_option maxHeartbeats 4000000 in
set_option maxRecDepth 100000 in
theorem st_X8_takeNumber {G : GG} {l : Launch} {T : Nat} {h : AH} (hI : RI h T) {v1 : Int32} {v2 : Int32} {w : MS} {y : Int32 × MS} (hf : s_X8_takeNumber G v1 v2 w = some y) : Ct G l yX8_takeNumber cX8_takeNumber 4 (some .int) 1 21 0 0 [.ref (T + 0), .int v1, .int v2] (rh h T w) (some (.int y.1), rh h T y.2) := by
  refine ct_of (by decide) (Nat.le_of_ble_eq_true rfl) ?_
  intro p e s m args below meth c C hm hr hin
  have C : Cx G cX8_takeNumber RX8 p s m args meth c := C
  refine e_lv (lv2 := [(0, .ref (T + 0)), (1, .int v1), (2, .int v2)]) [0, 1, 2] rfl ?_
  unfold s_X8_takeNumber at hf
  refine e_aload_n (pc := 0) C dX8_takeNumber_0 0 rfl rfl ?_
  refine r_geti (pc := 1) 0 8 7 hI C dX8_takeNumber_1 (by decide) (by decide) g189 rfl rT0 (by decide) ?_
  refine e_sipush (v := (256 : Int32)) (pc := 4) C dX8_takeNumber_4 (by decide) ?_
  obtain ⟨j_39, ej_39, hf⟩ := nn_e hf
  have W_39 : ∀ (h_39 : MS), j_39 h_39 = some y → EE G p l e ({ frames := 1, cells := 0, slots := 0, locals := 21 } : Room) s m args below meth c (some (.int y.1), rh h T y.2) 0 0 39 [(0, .ref (T + 0))] [] (rh h T h_39) 0 0 := by
    intro h_39 hf
    rw [ej_39] at hf
    refine e_aload_n (pc := 39) C dX8_takeNumber_39 0 rfl rfl ?_
    refine r_geti (pc := 40) 0 8 9 hI C dX8_takeNumber_40 (by decide) (by decide) g194 rfl rT0 (by decide) ?_
    rcases it_e hf with ⟨c1, hf⟩ | ⟨c1, hf⟩
    · refine e_if_eq (pc := 43) (tgt := 48) C dX8_takeNumber_43 (by decide) (fun _ => ?_) (fun q => absurd c1 q)
      refine e_aload_n (pc := 48) C dX8_takeNumber_48 0 rfl rfl ?_
      refine r_geti (pc := 49) 0 8 8 hI C dX8_takeNumber_49 (by decide) (by decide) g192 rfl rT0 (by decide) ?_
      obtain ⟨x2, ex2, hf⟩ := nn_e hf
      refine e_topi ex2 ?_
      refine e_istore_n (pc := 52) (lv2 := [(3, .int x2), (0, .ref (T + 0))]) C hm dX8_takeNumber_52 rfl (by decide) rfl ?_
      refine e_aload_n (pc := 53) C dX8_takeNumber_53 1 rfl rfl ?_
      obtain ⟨w3, y4, hf⟩ := ob_e hf
      refine e_callVv (pc := 54) (st := []) 8 C (st_X8_advance hI y4) dX8_takeNumber_54 (by decide) (hI.1 _ rT0) g714 g715 g716 g147 g717 hd_X8_advance rfl ⟨Nat.le_of_ble_eq_true rfl, Nat.le_of_ble_eq_true rfl⟩ ⟨Nat.le_of_ble_eq_true rfl, Nat.le_of_ble_eq_true rfl⟩ rfl (Nat.le_of_ble_eq_true rfl) ?_
      refine e_iload_n (pc := 57) C dX8_takeNumber_57 0 rfl rfl ?_
      obtain rfl := so_e hf
      exact e_iret (pc := 58) C hr dX8_takeNumber_58 (Nat.le_of_ble_eq_true rfl) (Nat.le_of_ble_eq_true rfl)
    · refine e_if_eq (pc := 43) (tgt := 48) C dX8_takeNumber_43 (by decide) (fun q => absurd q c1) (fun _ => ?_)
      refine e_iconst (v := (-1 : Int32)) (pc := 46) C dX8_takeNumber_46 (by decide) ?_
      obtain rfl := so_e hf
      exact e_iret (pc := 47) C hr dX8_takeNumber_47 (Nat.le_of_ble_eq_true rfl) (Nat.le_of_ble_eq_true rfl)
  rcases it_e hf with ⟨c5, hf⟩ | ⟨c5, hf⟩
  · refine e_icmp_eq (pc := 7) (tgt := 18) C dX8_takeNumber_7 (by decide) (fun _ => ?_) (fun q => absurd c5 q)
    refine e_aload_n (pc := 18) C dX8_takeNumber_18 0 rfl rfl ?_
    refine r_geti (pc := 19) 0 8 8 hI C dX8_takeNumber_19 (by decide) (by decide) g192 rfl rT0 (by decide) ?_
    refine e_iload_n (pc := 22) C dX8_takeNumber_22 1 rfl rfl ?_
    obtain ⟨j_34, ej_34, hf⟩ := nn_e hf
    have W_34 : ∀ (uu_34 : Unit), j_34 uu_34 = some y → EE G p l e ({ frames := 1, cells := 0, slots := 0, locals := 21 } : Room) s m args below meth c (some (.int y.1), rh h T y.2) 0 0 34 [(0, .ref (T + 0))] [] (rh h T w) 0 0 := by
      intro uu_34 hf
      rw [ej_34] at hf
      refine e_aload_n (pc := 34) C dX8_takeNumber_34 0 rfl rfl ?_
      refine e_iconst (v := (1 : Int32)) (pc := 35) C dX8_takeNumber_35 (by decide) ?_
      obtain ⟨w6, y7, hf⟩ := ob_e hf
      refine e_callVv (pc := 36) (st := []) 8 C (st_X8_fail hI y7) dX8_takeNumber_36 (by decide) (hI.1 _ rT0) g739 g723 g724 g147 g725 hd_X8_fail rfl ⟨Nat.le_of_ble_eq_true rfl, Nat.le_of_ble_eq_true rfl⟩ ⟨Nat.le_of_ble_eq_true rfl, Nat.le_of_ble_eq_true rfl⟩ rfl (Nat.le_of_ble_eq_true rfl) ?_
      exact W_39 w6 hf
    rcases it_e hf with ⟨c8, hf⟩ | ⟨c8, hf⟩
    · refine e_icmp_lt (pc := 23) (tgt := 34) C dX8_takeNumber_23 (by decide) (fun _ => ?_) (fun q => absurd c8 q)
      refine e_lv (lv2 := [(0, .ref (T + 0))]) [0] rfl ?_
      exact W_34 () hf
    · refine e_icmp_lt (pc := 23) (tgt := 34) C dX8_takeNumber_23 (by decide) (fun q => absurd q c8) (fun _ => ?_)
      refine e_aload_n (pc := 26) C dX8_takeNumber_26 0 rfl rfl ?_
      refine r_geti (pc := 27) 0 8 8 hI C dX8_takeNumber_27 (by decide) (by decide) g192 rfl rT0 (by decide) ?_
      refine e_iload_n (pc := 30) C dX8_takeNumber_30 2 rfl rfl ?_
      rcases it_e hf with ⟨c9, hf⟩ | ⟨c9, hf⟩
      · refine e_icmp_le (pc := 31) (tgt := 39) C dX8_takeNumber_31 (by decide) (fun _ => ?_) (fun q => absurd c9 q)
        refine e_lv (lv2 := [(0, .ref (T + 0))]) [0] rfl ?_
        exact W_39 w hf
      · refine e_icmp_le (pc := 31) (tgt := 39) C dX8_takeNumber_31 (by decide) (fun q => absurd q c9) (fun _ => ?_)
        refine e_lv (lv2 := [(0, .ref (T + 0))]) [0] rfl ?_
        exact W_34 () hf
  · refine e_icmp_eq (pc := 7) (tgt := 18) C dX8_takeNumber_7 (by decide) (fun q => absurd q c5) (fun _ => ?_)
    refine e_aload_n (pc := 10) C dX8_takeNumber_10 0 rfl rfl ?_
    refine e_iconst (v := (0 : Int32)) (pc := 11) C dX8_takeNumber_11 (by decide) ?_
    obtain ⟨w10, y11, hf⟩ := ob_e hf
    refine e_callVv (pc := 12) (st := []) 8 C (st_X8_fail hI y11) dX8_takeNumber_12 (by decide) (hI.1 _ rT0) g739 g723 g724 g147 g725 hd_X8_fail rfl ⟨Nat.le_of_ble_eq_true rfl, Nat.le_of_ble_eq_true rfl⟩ ⟨Nat.le_of_ble_eq_true rfl, Nat.le_of_ble_eq_true rfl⟩ rfl (Nat.le_of_ble_eq_true rfl) ?_
    refine e_goto (pc := 15) (tgt := 39) C dX8_takeNumber_15 (by decide) ?_
    refine e_lv (lv2 := [(0, .ref (T + 0))]) [0] rfl ?_
    exact W_39 w10 hf
theorem dX8_takeByte_0 : decode cX8_takeByte 0 = .ok (.aload_n 0, 1) := by decide +kernel
theorem dX8_takeByte_1 : decode cX8_takeByte 1 = .ok (.getfield 35, 3) := by decide +kernel
theorem dX8_takeByte_4 : decode cX8_takeByte 4 = .ok (.iload_n 1, 1) := by decide +kernel
theorem dX8_takeByte_5 : decode cX8_takeByte 5 = .ok (.if_icmp .ne 10, 3) := by decide +kernel
theorem dX8_takeByte_8 : decode cX8_takeByte 8 = .ok (.aload_n 0, 1) := by decide +kernel
theorem dX8_takeByte_9 : decode cX8_takeByte 9 = .ok (.invokevirtual 52, 3) := by decide +kernel
theorem dX8_takeByte_12 : decode cX8_takeByte 12 = .ok (.goto 8, 3) := by decide +kernel
theorem dX8_takeByte_15 : decode cX8_takeByte 15 = .ok (.aload_n 0, 1) := by decide +kernel
theorem dX8_takeByte_16 : decode cX8_takeByte 16 = .ok (.iconst 0, 1) := by decide +kernel
theorem dX8_takeByte_17 : decode cX8_takeByte 17 = .ok (.invokevirtual 55, 3) := by decide +kernel
theorem dX8_takeByte_20 : decode cX8_takeByte 20 = .ok (.return_, 1) := by decide +kernel
def s_X8_takeByte (G : GG) (v1 : Int32) (w : MS) : Option (MS) :=
if (w.1 0 7) = v1 then (ob (s_X8_advance G w) fun w2 =>
some w2) else
ob (s_X8_fail G (0 : Int32) w) fun w4 =>
some w4
set_option maxHeartbeats 4000000 in
set_option maxRecDepth 100000 in
theorem st_X8_takeByte {G : GG} {l : Launch} {T : Nat} {h : AH} (hI : RI h T) {v1 : Int32} {w : MS} {y : MS} (hf : s_X8_takeByte G v1 w = some y) : Ct G l yX8_takeByte cX8_takeByte 2 none 1 21 0 0 [.ref (T + 0), .int v1] (rh h T w) (none, rh h T y) := by
  refine ct_of (by decide) (Nat.le_of_ble_eq_true rfl) ?_
  intro p e s m args below meth c C hm hr hin
  have C : Cx G cX8_takeByte RX8 p s m args meth c := C
  refine e_lv (lv2 := [(0, .ref (T + 0)), (1, .int v1)]) [0, 1] rfl ?_
  unfold s_X8_takeByte at hf
  refine e_aload_n (pc := 0) C dX8_takeByte_0 0 rfl rfl ?_
  refine r_geti (pc := 1) 0 8 7 hI C dX8_takeByte_1 (by decide) (by decide) g189 rfl rT0 (by decide) ?_
  refine e_iload_n (pc := 4) C dX8_takeByte_4 1 rfl rfl ?_
  rcases it_e hf with ⟨c1, hf⟩ | ⟨c1, hf⟩
  · refine e_icmp_ne (pc := 5) (tgt := 15) C dX8_takeByte_5 (by decide) (fun q => absurd c1 q) (fun _ => ?_)
    refine e_aload_n (pc := 8) C dX8_takeByte_8 0 rfl rfl ?_
    obtain ⟨w2, y3, hf⟩ := ob_e hf
    refine e_callVv (pc := 9) (st := []) 8 C (st_X8_advance hI y3) dX8_takeByte_9 (by decide) (hI.1 _ rT0) g714 g715 g716 g147 g717 hd_X8_advance rfl ⟨Nat.le_of_ble_eq_true rfl, Nat.le_of_ble_eq_true rfl⟩ ⟨Nat.le_of_ble_eq_true rfl, Nat.le_of_ble_eq_true rfl⟩ rfl (Nat.le_of_ble_eq_true rfl) ?_
    refine e_goto (pc := 12) (tgt := 20) C dX8_takeByte_12 (by decide) ?_
    obtain rfl := so_e hf
    exact e_vret (pc := 20) C hr dX8_takeByte_20 (Nat.le_of_ble_eq_true rfl) (Nat.le_of_ble_eq_true rfl)
  · refine e_icmp_ne (pc := 5) (tgt := 15) C dX8_takeByte_5 (by decide) (fun _ => ?_) (fun q => absurd q c1)
    refine e_aload_n (pc := 15) C dX8_takeByte_15 0 rfl rfl ?_
    refine e_iconst (v := (0 : Int32)) (pc := 16) C dX8_takeByte_16 (by decide) ?_
    obtain ⟨w4, y5, hf⟩ := ob_e hf
    refine e_callVv (pc := 17) (st := []) 8 C (st_X8_fail hI y5) dX8_takeByte_17 (by decide) (hI.1 _ rT0) g739 g723 g724 g147 g725 hd_X8_fail rfl ⟨Nat.le_of_ble_eq_true rfl, Nat.le_of_ble_eq_true rfl⟩ ⟨Nat.le_of_ble_eq_true rfl, Nat.le_of_ble_eq_true rfl⟩ rfl (Nat.le_of_ble_eq_true rfl) ?_
    obtain rfl := so_e hf
    exact e_vret (pc := 20) C hr dX8_takeByte_20 (Nat.le_of_ble_eq_true rfl) (Nat.le_of_ble_eq_true rfl)
theorem dX3_takePull_0 : decode cX3_takePull 0 = .ok (.aload_n 0, 1) := by decide +kernel
theorem dX3_takePull_1 : decode cX3_takePull 1 = .ok (.getfield 22, 3) := by decide +kernel
theorem dX3_takePull_4 : decode cX3_takePull 4 = .ok (.getfield 44, 3) := by decide +kernel
theorem dX3_takePull_7 : decode cX3_takePull 7 = .ok (.sipush 313, 3) := by decide +kernel
theorem dX3_takePull_10 : decode cX3_takePull 10 = .ok (.if_icmp .eq 14, 3) := by decide +kernel
theorem dX3_takePull_13 : decode cX3_takePull 13 = .ok (.aload_n 0, 1) := by decide +kernel
theorem dX3_takePull_14 : decode cX3_takePull 14 = .ok (.getfield 22, 3) := by decide +kernel
theorem dX3_takePull_17 : decode cX3_takePull 17 = .ok (.iconst 0, 1) := by decide +kernel
theorem dX3_takePull_18 : decode cX3_takePull 18 = .ok (.invokevirtual 70, 3) := by decide +kernel
theorem dX3_takePull_21 : decode cX3_takePull 21 = .ok (.goto 27, 3) := by decide +kernel
theorem dX3_takePull_24 : decode cX3_takePull 24 = .ok (.iload_n 1, 1) := by decide +kernel
theorem dX3_takePull_25 : decode cX3_takePull 25 = .ok (.bipush 12, 2) := by decide +kernel
theorem dX3_takePull_27 : decode cX3_takePull 27 = .ok (.if_icmp .ne 14, 3) := by decide +kernel
theorem dX3_takePull_30 : decode cX3_takePull 30 = .ok (.aload_n 0, 1) := by decide +kernel
theorem dX3_takePull_31 : decode cX3_takePull 31 = .ok (.getfield 22, 3) := by decide +kernel
theorem dX3_takePull_34 : decode cX3_takePull 34 = .ok (.iconst 4, 1) := by decide +kernel
theorem dX3_takePull_35 : decode cX3_takePull 35 = .ok (.invokevirtual 70, 3) := by decide +kernel
theorem dX3_takePull_38 : decode cX3_takePull 38 = .ok (.goto 10, 3) := by decide +kernel
theorem dX3_takePull_41 : decode cX3_takePull 41 = .ok (.aload_n 0, 1) := by decide +kernel
theorem dX3_takePull_42 : decode cX3_takePull 42 = .ok (.getfield 22, 3) := by decide +kernel
theorem dX3_takePull_45 : decode cX3_takePull 45 = .ok (.invokevirtual 47, 3) := by decide +kernel
theorem dX3_takePull_48 : decode cX3_takePull 48 = .ok (.return_, 1) := by decide +kernel
def s_X3_takePull (G : GG) (v1 : Int32) (w : MS) : Option (MS) :=
if (w.1 0 7) = (313 : Int32) then (if v1 = (12 : Int32) then (ob (s_X8_fail G (4 : Int32) w) fun w3 =>
some w3) else
ob (s_X8_advance G w) fun w5 =>
some w5) else
ob (s_X8_fail G (0 : Int32) w) fun w7 =>
some w7
set_option maxHeartbeats 4000000 in
set_option maxRecDepth 100000 in
theorem st_X3_takePull {G : GG} {l : Launch} {T : Nat} {h : AH} (hI : RI h T) {v1 : Int32} {w : MS} {y : MS} (hf : s_X3_takePull G v1 w = some y) : Ct G l yX3_takePull cX3_takePull 2 none 1 21 0 0 [.ref (T + 6), .int v1] (rh h T w) (none, rh h T y) := by
  refine ct_of (by decide) (Nat.le_of_ble_eq_true rfl) ?_
  intro p e s m args below meth c C hm hr hin
  have C : Cx G cX3_takePull RX3 p s m args meth c := C
  refine e_lv (lv2 := [(0, .ref (T + 6)), (1, .int v1)]) [0, 1] rfl ?_
  unfold s_X3_takePull at hf
  refine e_aload_n (pc := 0) C dX3_takePull_0 0 rfl rfl ?_
  refine r_getr (pc := 1) 6 3 0 0 hI C dX3_takePull_1 (by decide) (by decide) g240 rfl rT6 (by decide) ?_
  refine r_getiN (pc := 4) 0 8 7 hI C dX3_takePull_4 (by decide) (by decide) g191 rfl rT0 (by decide) ?_
  refine e_sipush (v := (313 : Int32)) (pc := 7) C dX3_takePull_7 (by decide) ?_
  rcases it_e hf with ⟨c1, hf⟩ | ⟨c1, hf⟩
  · refine e_icmp_eq (pc := 10) (tgt := 24) C dX3_takePull_10 (by decide) (fun _ => ?_) (fun q => absurd c1 q)
    refine e_iload_n (pc := 24) C dX3_takePull_24 1 rfl rfl ?_
    refine e_bipush (v := (12 : Int32)) (pc := 25) C dX3_takePull_25 (by decide) ?_
    rcases it_e hf with ⟨c2, hf⟩ | ⟨c2, hf⟩
    · refine e_icmp_ne (pc := 27) (tgt := 41) C dX3_takePull_27 (by decide) (fun q => absurd c2 q) (fun _ => ?_)
      refine e_aload_n (pc := 30) C dX3_takePull_30 0 rfl rfl ?_
      refine r_getr (pc := 31) 6 3 0 0 hI C dX3_takePull_31 (by decide) (by decide) g240 rfl rT6 (by decide) ?_
      refine e_iconst (v := (4 : Int32)) (pc := 34) C dX3_takePull_34 (by decide) ?_
      obtain ⟨w3, y4, hf⟩ := ob_e hf
      refine e_callVv (pc := 35) (st := []) 8 C (st_X8_fail hI y4) dX3_takePull_35 (by decide) (hI.1 _ rT0) g817 g723 g724 g147 g725 hd_X8_fail rfl ⟨Nat.le_of_ble_eq_true rfl, Nat.le_of_ble_eq_true rfl⟩ ⟨Nat.le_of_ble_eq_true rfl, Nat.le_of_ble_eq_true rfl⟩ rfl (Nat.le_of_ble_eq_true rfl) ?_
      refine e_goto (pc := 38) (tgt := 48) C dX3_takePull_38 (by decide) ?_
      obtain rfl := so_e hf
      exact e_vret (pc := 48) C hr dX3_takePull_48 (Nat.le_of_ble_eq_true rfl) (Nat.le_of_ble_eq_true rfl)
    · refine e_icmp_ne (pc := 27) (tgt := 41) C dX3_takePull_27 (by decide) (fun _ => ?_) (fun q => absurd q c2)
      refine e_aload_n (pc := 41) C dX3_takePull_41 0 rfl rfl ?_
      refine r_getr (pc := 42) 6 3 0 0 hI C dX3_takePull_42 (by decide) (by decide) g240 rfl rT6 (by decide) ?_
      obtain ⟨w5, y6, hf⟩ := ob_e hf
      refine e_callVv (pc := 45) (st := []) 8 C (st_X8_advance hI y6) dX3_takePull_45 (by decide) (hI.1 _ rT0) g818 g715 g716 g147 g717 hd_X8_advance rfl ⟨Nat.le_of_ble_eq_true rfl, Nat.le_of_ble_eq_true rfl⟩ ⟨Nat.le_of_ble_eq_true rfl, Nat.le_of_ble_eq_true rfl⟩ rfl (Nat.le_of_ble_eq_true rfl) ?_
      obtain rfl := so_e hf
      exact e_vret (pc := 48) C hr dX3_takePull_48 (Nat.le_of_ble_eq_true rfl) (Nat.le_of_ble_eq_true rfl)
  · refine e_icmp_eq (pc := 10) (tgt := 24) C dX3_takePull_10 (by decide) (fun q => absurd q c1) (fun _ => ?_)
    refine e_aload_n (pc := 13) C dX3_takePull_13 0 rfl rfl ?_
    refine r_getr (pc := 14) 6 3 0 0 hI C dX3_takePull_14 (by decide) (by decide) g240 rfl rT6 (by decide) ?_
    refine e_iconst (v := (0 : Int32)) (pc := 17) C dX3_takePull_17 (by decide) ?_
    obtain ⟨w7, y8, hf⟩ := ob_e hf
    refine e_callVv (pc := 18) (st := []) 8 C (st_X8_fail hI y8) dX3_takePull_18 (by decide) (hI.1 _ rT0) g817 g723 g724 g147 g725 hd_X8_fail rfl ⟨Nat.le_of_ble_eq_true rfl, Nat.le_of_ble_eq_true rfl⟩ ⟨Nat.le_of_ble_eq_true rfl, Nat.le_of_ble_eq_true rfl⟩ rfl (Nat.le_of_ble_eq_true rfl) ?_
    refine e_goto (pc := 21) (tgt := 48) C dX3_takePull_21 (by decide) ?_
    obtain rfl := so_e hf
    exact e_vret (pc := 48) C hr dX3_takePull_48 (Nat.le_of_ble_eq_true rfl) (Nat.le_of_ble_eq_true rfl)
theorem dX3_write_0 : decode cX3_write 0 = .ok (.aload_n 0, 1) := by decide +kernel
theorem dX3_write_1 : decode cX3_write 1 = .ok (.getfield 15, 3) := by decide +kernel
theorem dX3_write_4 : decode cX3_write 4 = .ok (.sipush 400, 3) := by decide +kernel
theorem dX3_write_7 : decode cX3_write 7 = .ok (.if_icmp .ge 23, 3) := by decide +kernel
theorem dX3_write_10 : decode cX3_write 10 = .ok (.aload_n 0, 1) := by decide +kernel
theorem dX3_write_11 : decode cX3_write 11 = .ok (.getfield 9, 3) := by decide +kernel
theorem dX3_write_14 : decode cX3_write 14 = .ok (.aload_n 0, 1) := by decide +kernel
theorem dX3_write_15 : decode cX3_write 15 = .ok (.getfield 15, 3) := by decide +kernel
theorem dX3_write_18 : decode cX3_write 18 = .ok (.iload_n 1, 1) := by decide +kernel
theorem dX3_write_19 : decode cX3_write 19 = .ok (.iastore, 1) := by decide +kernel
theorem dX3_write_20 : decode cX3_write 20 = .ok (.aload_n 0, 1) := by decide +kernel
theorem dX3_write_21 : decode cX3_write 21 = .ok (.dup, 1) := by decide +kernel
theorem dX3_write_22 : decode cX3_write 22 = .ok (.getfield 15, 3) := by decide +kernel
theorem dX3_write_25 : decode cX3_write 25 = .ok (.iconst 1, 1) := by decide +kernel
theorem dX3_write_26 : decode cX3_write 26 = .ok (.iadd, 1) := by decide +kernel
theorem dX3_write_27 : decode cX3_write 27 = .ok (.putfield 15, 3) := by decide +kernel
theorem dX3_write_30 : decode cX3_write 30 = .ok (.return_, 1) := by decide +kernel
def s_X3_write (G : GG) (v1 : Int32) (w : MS) : Option (MS) :=
if (400 : Int32) ≤ (w.1 6 2) then (some w) else
ck (ixn 400 (w.1 6 2) = true) <|
nn (w_si w 7 (w.1 6 2).toNatClampNeg v1) fun w3 =>
nn (w_si w3 6 2 ((w3.1 6 2) + (1 : Int32))) fun w4 =>
some w4
set_option maxHeartbeats 4000000 in
set_option maxRecDepth 100000 in
theorem st_X3_write {G : GG} {l : Launch} {T : Nat} {h : AH} (hI : RI h T) {v1 : Int32} {w : MS} {y : MS} (hf : s_X3_write G v1 w = some y) : Ct G l yX3_write cX3_write 2 none 0 0 0 0 [.ref (T + 6), .int v1] (rh h T w) (none, rh h T y) := by
  refine ct_of (by decide) (Nat.le_of_ble_eq_true rfl) ?_
  intro p e s m args below meth c C hm hr hin
  have C : Cx G cX3_write RX3 p s m args meth c := C
  refine e_lv (lv2 := [(0, .ref (T + 6)), (1, .int v1)]) [0, 1] rfl ?_
  unfold s_X3_write at hf
  refine e_aload_n (pc := 0) C dX3_write_0 0 rfl rfl ?_
  refine r_geti (pc := 1) 6 3 2 hI C dX3_write_1 (by decide) (by decide) g242 rfl rT6 (by decide) ?_
  refine e_sipush (v := (400 : Int32)) (pc := 4) C dX3_write_4 (by decide) ?_
  rcases it_e hf with ⟨c1, hf⟩ | ⟨c1, hf⟩
  · refine e_icmp_ge (pc := 7) (tgt := 30) C dX3_write_7 (by decide) (fun _ => ?_) (fun q => absurd c1 q)
    obtain rfl := so_e hf
    exact e_vret (pc := 30) C hr dX3_write_30 (Nat.le_of_ble_eq_true rfl) (Nat.le_of_ble_eq_true rfl)
  · refine e_icmp_ge (pc := 7) (tgt := 30) C dX3_write_7 (by decide) (fun q => absurd q c1) (fun _ => ?_)
    refine e_aload_n (pc := 10) C dX3_write_10 0 rfl rfl ?_
    refine r_getr (pc := 11) 6 3 1 7 hI C dX3_write_11 (by decide) (by decide) g241 rfl rT6 (by decide) ?_
    refine e_aload_n (pc := 14) C dX3_write_14 0 rfl rfl ?_
    refine r_geti (pc := 15) 6 3 2 hI C dX3_write_15 (by decide) (by decide) g242 rfl rT6 (by decide) ?_
    refine e_iload_n (pc := 18) C dX3_write_18 1 rfl rfl ?_
    obtain ⟨q2, hf⟩ := ck_e hf
    refine r_iast (pc := 19) 7 400 hI C dX3_write_19 rT7 (by decide) (ixn_e q2) ?_
    obtain ⟨w3, ew3, hf⟩ := nn_e hf
    refine r_hp ew3 ?_
    refine e_aload_n (pc := 20) C dX3_write_20 0 rfl rfl ?_
    refine e_dup (pc := 21) C dX3_write_21 rfl ?_
    refine r_geti (pc := 22) 6 3 2 hI C dX3_write_22 (by decide) (by decide) g242 rfl rT6 (by decide) ?_
    refine e_iconst (v := (1 : Int32)) (pc := 25) C dX3_write_25 (by decide) ?_
    refine e_iadd (pc := 26) C dX3_write_26 ?_
    refine r_puti (pc := 27) 6 3 2 hI C dX3_write_27 (by decide) (by decide) g242 rfl rfl rfl rfl rT6 (by decide) ?_
    obtain ⟨w4, ew4, hf⟩ := nn_e hf
    refine r_hp ew4 ?_
    obtain rfl := so_e hf
    exact e_vret (pc := 30) C hr dX3_write_30 (Nat.le_of_ble_eq_true rfl) (Nat.le_of_ble_eq_true rfl)
theorem dX3_readValue_0 : decode cX3_readValue 0 = .ok (.aload_n 0, 1) := by decide +kernel
theorem dX3_readValue_1 : decode cX3_readValue 1 = .ok (.getfield 22, 3) := by decide +kernel
theorem dX3_readValue_4 : decode cX3_readValue 4 = .ok (.getfield 44, 3) := by decide +kernel
theorem dX3_readValue_7 : decode cX3_readValue 7 = .ok (.istore_n 1, 1) := by decide +kernel
theorem dX3_readValue_8 : decode cX3_readValue 8 = .ok (.iload_n 1, 1) := by decide +kernel
theorem dX3_readValue_9 : decode cX3_readValue 9 = .ok (.sipush 300, 3) := by decide +kernel
theorem dX3_readValue_12 : decode cX3_readValue 12 = .ok (.if_icmp .lt 14, 3) := by decide +kernel
theorem dX3_readValue_15 : decode cX3_readValue 15 = .ok (.iload_n 1, 1) := by decide +kernel
theorem dX3_readValue_16 : decode cX3_readValue 16 = .ok (.sipush 312, 3) := by decide +kernel
theorem dX3_readValue_19 : decode cX3_readValue 19 = .ok (.if_icmp .gt 7, 3) := by decide +kernel
theorem dX3_readValue_22 : decode cX3_readValue 22 = .ok (.iconst 1, 1) := by decide +kernel
theorem dX3_readValue_23 : decode cX3_readValue 23 = .ok (.goto 4, 3) := by decide +kernel
theorem dX3_readValue_26 : decode cX3_readValue 26 = .ok (.iconst 0, 1) := by decide +kernel
theorem dX3_readValue_27 : decode cX3_readValue 27 = .ok (.istore_n 2, 1) := by decide +kernel
theorem dX3_readValue_28 : decode cX3_readValue 28 = .ok (.aload_n 0, 1) := by decide +kernel
theorem dX3_readValue_29 : decode cX3_readValue 29 = .ok (.dup, 1) := by decide +kernel
theorem dX3_readValue_30 : decode cX3_readValue 30 = .ok (.getfield 19, 3) := by decide +kernel
theorem dX3_readValue_33 : decode cX3_readValue 33 = .ok (.iconst 1, 1) := by decide +kernel
theorem dX3_readValue_34 : decode cX3_readValue 34 = .ok (.iadd, 1) := by decide +kernel
theorem dX3_readValue_35 : decode cX3_readValue 35 = .ok (.putfield 19, 3) := by decide +kernel
theorem dX3_readValue_38 : decode cX3_readValue 38 = .ok (.iload_n 2, 1) := by decide +kernel
theorem dX3_readValue_39 : decode cX3_readValue 39 = .ok (.ifCond .ne 21, 3) := by decide +kernel
theorem dX3_readValue_42 : decode cX3_readValue 42 = .ok (.iload_n 1, 1) := by decide +kernel
theorem dX3_readValue_43 : decode cX3_readValue 43 = .ok (.sipush 256, 3) := by decide +kernel
theorem dX3_readValue_46 : decode cX3_readValue 46 = .ok (.if_icmp .eq 14, 3) := by decide +kernel
theorem dX3_readValue_49 : decode cX3_readValue 49 = .ok (.aload_n 0, 1) := by decide +kernel
theorem dX3_readValue_50 : decode cX3_readValue 50 = .ok (.getfield 22, 3) := by decide +kernel
theorem dX3_readValue_53 : decode cX3_readValue 53 = .ok (.iconst 0, 1) := by decide +kernel
theorem dX3_readValue_54 : decode cX3_readValue 54 = .ok (.invokevirtual 70, 3) := by decide +kernel
theorem dX3_readValue_57 : decode cX3_readValue 57 = .ok (.goto 46, 3) := by decide +kernel
theorem dX3_readValue_60 : decode cX3_readValue 60 = .ok (.iload_n 2, 1) := by decide +kernel
theorem dX3_readValue_61 : decode cX3_readValue 61 = .ok (.ifCond .ne 25, 3) := by decide +kernel
theorem dX3_readValue_64 : decode cX3_readValue 64 = .ok (.aload_n 0, 1) := by decide +kernel
theorem dX3_readValue_65 : decode cX3_readValue 65 = .ok (.getfield 22, 3) := by decide +kernel
theorem dX3_readValue_68 : decode cX3_readValue 68 = .ok (.getfield 89, 3) := by decide +kernel
theorem dX3_readValue_71 : decode cX3_readValue 71 = .ok (.iconst (-1), 1) := by decide +kernel
theorem dX3_readValue_72 : decode cX3_readValue 72 = .ok (.if_icmp .ne 14, 3) := by decide +kernel
theorem dX3_readValue_75 : decode cX3_readValue 75 = .ok (.aload_n 0, 1) := by decide +kernel
theorem dX3_readValue_76 : decode cX3_readValue 76 = .ok (.getfield 22, 3) := by decide +kernel
theorem dX3_readValue_79 : decode cX3_readValue 79 = .ok (.iconst 1, 1) := by decide +kernel
theorem dX3_readValue_80 : decode cX3_readValue 80 = .ok (.invokevirtual 70, 3) := by decide +kernel
theorem dX3_readValue_83 : decode cX3_readValue 83 = .ok (.goto 20, 3) := by decide +kernel
theorem dX3_readValue_86 : decode cX3_readValue 86 = .ok (.aload_n 0, 1) := by decide +kernel
theorem dX3_readValue_87 : decode cX3_readValue 87 = .ok (.getfield 19, 3) := by decide +kernel
theorem dX3_readValue_90 : decode cX3_readValue 90 = .ok (.bipush 60, 2) := by decide +kernel
theorem dX3_readValue_92 : decode cX3_readValue 92 = .ok (.if_icmp .le 11, 3) := by decide +kernel
theorem dX3_readValue_95 : decode cX3_readValue 95 = .ok (.aload_n 0, 1) := by decide +kernel
theorem dX3_readValue_96 : decode cX3_readValue 96 = .ok (.getfield 22, 3) := by decide +kernel
theorem dX3_readValue_99 : decode cX3_readValue 99 = .ok (.iconst 3, 1) := by decide +kernel
theorem dX3_readValue_100 : decode cX3_readValue 100 = .ok (.invokevirtual 70, 3) := by decide +kernel
theorem dX3_readValue_103 : decode cX3_readValue 103 = .ok (.aload_n 0, 1) := by decide +kernel
theorem dX3_readValue_104 : decode cX3_readValue 104 = .ok (.getfield 22, 3) := by decide +kernel
theorem dX3_readValue_107 : decode cX3_readValue 107 = .ok (.getfield 34, 3) := by decide +kernel
theorem dX3_readValue_110 : decode cX3_readValue 110 = .ok (.ifCond .ne 30, 3) := by decide +kernel
theorem dX3_readValue_113 : decode cX3_readValue 113 = .ok (.aload_n 0, 1) := by decide +kernel
theorem dX3_readValue_114 : decode cX3_readValue 114 = .ok (.iload_n 2, 1) := by decide +kernel
theorem dX3_readValue_115 : decode cX3_readValue 115 = .ok (.ifCond .eq 8, 3) := by decide +kernel
theorem dX3_readValue_118 : decode cX3_readValue 118 = .ok (.iload_n 1, 1) := by decide +kernel
theorem dX3_readValue_119 : decode cX3_readValue 119 = .ok (.ineg, 1) := by decide +kernel
theorem dX3_readValue_120 : decode cX3_readValue 120 = .ok (.goto 10, 3) := by decide +kernel
theorem dX3_readValue_123 : decode cX3_readValue 123 = .ok (.aload_n 0, 1) := by decide +kernel
theorem dX3_readValue_124 : decode cX3_readValue 124 = .ok (.getfield 22, 3) := by decide +kernel
theorem dX3_readValue_127 : decode cX3_readValue 127 = .ok (.getfield 89, 3) := by decide +kernel
theorem dX3_readValue_130 : decode cX3_readValue 130 = .ok (.invokevirtual 53, 3) := by decide +kernel
theorem dX3_readValue_133 : decode cX3_readValue 133 = .ok (.aload_n 0, 1) := by decide +kernel
theorem dX3_readValue_134 : decode cX3_readValue 134 = .ok (.getfield 22, 3) := by decide +kernel
theorem dX3_readValue_137 : decode cX3_readValue 137 = .ok (.invokevirtual 47, 3) := by decide +kernel
theorem dX3_readValue_140 : decode cX3_readValue 140 = .ok (.return_, 1) := by decide +kernel
def s_X3_readValue (G : GG) (w : MS) : Option (MS) :=
nn (w.1 0 7) fun x1 =>
nn (fun (s0_27 : Int32) => (nn (w_si w 6 3 ((w.1 6 3) + (1 : Int32))) fun w2 =>
nn (fun (h_103 : MS) => (if (h_103.1 0 9) = 0 then (nn (fun (s0_130 : Int32) => (ob (s_X3_write G s0_130 h_103) fun w4 =>
ob (s_X8_advance G w4) fun w6 =>
some w6)) fun j_130 =>
if s0_27 = 0 then (j_130 (h_103.1 0 8)) else
j_130 (-x1)) else
some h_103)) fun j_103 =>
nn (fun (uu_60 : Unit) => (nn (fun (uu_86 : Unit) => (if (w2.1 6 3) ≤ (60 : Int32) then (j_103 w2) else
ob (s_X8_fail G (3 : Int32) w2) fun w10 =>
j_103 w10)) fun j_86 =>
if s0_27 = 0 then (if (w2.1 0 8) = (-1 : Int32) then (ob (s_X8_fail G (1 : Int32) w2) fun w14 =>
j_103 w14) else
j_86 ()) else
j_86 ())) fun j_60 =>
if s0_27 = 0 then (if x1 = (256 : Int32) then (j_60 ()) else
ob (s_X8_fail G (0 : Int32) w2) fun w18 =>
j_103 w18) else
j_60 ())) fun j_27 =>
nn (fun (uu_26 : Unit) => (j_27 (0 : Int32))) fun j_26 =>
if x1 < (300 : Int32) then (j_26 ()) else
if (312 : Int32) < x1 then (j_26 ()) else
j_27 (1 : Int32)
set_option maxHeartbeats 4000000 in
set_option maxRecDepth 100000 in
theorem st_X3_readValue {G : GG} {l : Launch} {T : Nat} {h : AH} (hI : RI h T) {w : MS} {y : MS} (hf : s_X3_readValue G w = some y) : Ct G l yX3_readValue cX3_readValue 3 none 1 21 0 0 [.ref (T + 6)] (rh h T w) (none, rh h T y) := by
  refine ct_of (by decide) (Nat.le_of_ble_eq_true rfl) ?_
  intro p e s m args below meth c C hm hr hin
  have C : Cx G cX3_readValue RX3 p s m args meth c := C
  refine e_lv (lv2 := [(0, .ref (T + 6))]) [0] rfl ?_
  unfold s_X3_readValue at hf
  refine e_aload_n (pc := 0) C dX3_readValue_0 0 rfl rfl ?_
  refine r_getr (pc := 1) 6 3 0 0 hI C dX3_readValue_1 (by decide) (by decide) g240 rfl rT6 (by decide) ?_
  refine r_getiN (pc := 4) 0 8 7 hI C dX3_readValue_4 (by decide) (by decide) g191 rfl rT0 (by decide) ?_
  obtain ⟨x1, ex1, hf⟩ := nn_e hf
  refine e_topi ex1 ?_
  refine e_istore_n (pc := 7) (lv2 := [(1, .int x1), (0, .ref (T + 6))]) C hm dX3_readValue_7 rfl (by decide) rfl ?_
  refine e_iload_n (pc := 8) C dX3_readValue_8 0 rfl rfl ?_
  refine e_sipush (v := (300 : Int32)) (pc := 9) C dX3_readValue_9 (by decide) ?_
  obtain ⟨j_27, ej_27, hf⟩ := nn_e hf
  have W_27 : ∀ (s0_27 : Int32), j_27 s0_27 = some y → EE G p l e ({ frames := 1, cells := 0, slots := 0, locals := 21 } : Room) s m args below meth c (none, rh h T y) 0 0 27 [(0, .ref (T + 6)), (1, .int x1)] [.int s0_27] (rh h T w) 0 0 := by
    intro s0_27 hf
    rw [ej_27] at hf
    refine e_istore_n (pc := 27) (lv2 := [(2, .int s0_27), (0, .ref (T + 6)), (1, .int x1)]) C hm dX3_readValue_27 rfl (by decide) rfl ?_
    refine e_aload_n (pc := 28) C dX3_readValue_28 1 rfl rfl ?_
    refine e_dup (pc := 29) C dX3_readValue_29 rfl ?_
    refine r_geti (pc := 30) 6 3 3 hI C dX3_readValue_30 (by decide) (by decide) g243 rfl rT6 (by decide) ?_
    refine e_iconst (v := (1 : Int32)) (pc := 33) C dX3_readValue_33 (by decide) ?_
    refine e_iadd (pc := 34) C dX3_readValue_34 ?_
    refine r_puti (pc := 35) 6 3 3 hI C dX3_readValue_35 (by decide) (by decide) g243 rfl rfl rfl rfl rT6 (by decide) ?_
    obtain ⟨w2, ew2, hf⟩ := nn_e hf
    refine r_hp ew2 ?_
    refine e_iload_n (pc := 38) C dX3_readValue_38 0 rfl rfl ?_
    obtain ⟨j_103, ej_103, hf⟩ := nn_e hf
    have W_103 : ∀ (h_103 : MS), j_103 h_103 = some y → EE G p l e ({ frames := 1, cells := 0, slots := 0, locals := 21 } : Room) s m args below meth c (none, rh h T y) 0 0 103 [(0, .ref (T + 6)), (1, .int x1), (2, .int s0_27)] [] (rh h T h_103) 0 0 := by
      intro h_103 hf
      rw [ej_103] at hf
      refine e_aload_n (pc := 103) C dX3_readValue_103 0 rfl rfl ?_
      refine r_getr (pc := 104) 6 3 0 0 hI C dX3_readValue_104 (by decide) (by decide) g240 rfl rT6 (by decide) ?_
      refine r_getiN (pc := 107) 0 8 9 hI C dX3_readValue_107 (by decide) (by decide) g195 rfl rT0 (by decide) ?_
      rcases it_e hf with ⟨c3, hf⟩ | ⟨c3, hf⟩
      · refine e_if_ne (pc := 110) (tgt := 140) C dX3_readValue_110 (by decide) (fun q => absurd c3 q) (fun _ => ?_)
        refine e_aload_n (pc := 113) C dX3_readValue_113 0 rfl rfl ?_
        refine e_iload_n (pc := 114) C dX3_readValue_114 2 rfl rfl ?_
        obtain ⟨j_130, ej_130, hf⟩ := nn_e hf
        have W_130 : ∀ (s0_130 : Int32), j_130 s0_130 = some y → EE G p l e ({ frames := 1, cells := 0, slots := 0, locals := 21 } : Room) s m args below meth c (none, rh h T y) 0 0 130 [(0, .ref (T + 6))] [.int s0_130, .ref (T + 6)] (rh h T h_103) 0 0 := by
          intro s0_130 hf
          rw [ej_130] at hf
          obtain ⟨w4, y5, hf⟩ := ob_e hf
          refine e_callVv (pc := 130) (st := []) 3 C (st_X3_write hI y5) dX3_readValue_130 (by decide) (hI.1 _ rT6) g827 g829 g19 g149 g830 hd_X3_write rfl ⟨Nat.le_of_ble_eq_true rfl, Nat.le_of_ble_eq_true rfl⟩ ⟨Nat.le_of_ble_eq_true rfl, Nat.le_of_ble_eq_true rfl⟩ rfl (Nat.le_of_ble_eq_true rfl) ?_
          refine e_aload_n (pc := 133) C dX3_readValue_133 0 rfl rfl ?_
          refine r_getr (pc := 134) 6 3 0 0 hI C dX3_readValue_134 (by decide) (by decide) g240 rfl rT6 (by decide) ?_
          obtain ⟨w6, y7, hf⟩ := ob_e hf
          refine e_callVv (pc := 137) (st := []) 8 C (st_X8_advance hI y7) dX3_readValue_137 (by decide) (hI.1 _ rT0) g818 g715 g716 g147 g717 hd_X8_advance rfl ⟨Nat.le_of_ble_eq_true rfl, Nat.le_of_ble_eq_true rfl⟩ ⟨Nat.le_of_ble_eq_true rfl, Nat.le_of_ble_eq_true rfl⟩ rfl (Nat.le_of_ble_eq_true rfl) ?_
          obtain rfl := so_e hf
          exact e_vret (pc := 140) C hr dX3_readValue_140 (Nat.le_of_ble_eq_true rfl) (Nat.le_of_ble_eq_true rfl)
        rcases it_e hf with ⟨c8, hf⟩ | ⟨c8, hf⟩
        · refine e_if_eq (pc := 115) (tgt := 123) C dX3_readValue_115 (by decide) (fun _ => ?_) (fun q => absurd c8 q)
          refine e_aload_n (pc := 123) C dX3_readValue_123 0 rfl rfl ?_
          refine r_getr (pc := 124) 6 3 0 0 hI C dX3_readValue_124 (by decide) (by decide) g240 rfl rT6 (by decide) ?_
          refine r_getiN (pc := 127) 0 8 8 hI C dX3_readValue_127 (by decide) (by decide) g193 rfl rT0 (by decide) ?_
          refine e_lv (lv2 := [(0, .ref (T + 6))]) [0] rfl ?_
          exact W_130 (h_103.1 0 8) hf
        · refine e_if_eq (pc := 115) (tgt := 123) C dX3_readValue_115 (by decide) (fun q => absurd q c8) (fun _ => ?_)
          refine e_iload_n (pc := 118) C dX3_readValue_118 1 rfl rfl ?_
          refine e_ineg (pc := 119) C dX3_readValue_119 ?_
          refine e_goto (pc := 120) (tgt := 130) C dX3_readValue_120 (by decide) ?_
          refine e_lv (lv2 := [(0, .ref (T + 6))]) [0] rfl ?_
          exact W_130 (-x1) hf
      · refine e_if_ne (pc := 110) (tgt := 140) C dX3_readValue_110 (by decide) (fun _ => ?_) (fun q => absurd q c3)
        obtain rfl := so_e hf
        exact e_vret (pc := 140) C hr dX3_readValue_140 (Nat.le_of_ble_eq_true rfl) (Nat.le_of_ble_eq_true rfl)
    obtain ⟨j_60, ej_60, hf⟩ := nn_e hf
    have W_60 : ∀ (uu_60 : Unit), j_60 uu_60 = some y → EE G p l e ({ frames := 1, cells := 0, slots := 0, locals := 21 } : Room) s m args below meth c (none, rh h T y) 0 0 60 [(0, .ref (T + 6)), (1, .int x1), (2, .int s0_27)] [] (rh h T w2) 0 0 := by
      intro uu_60 hf
      rw [ej_60] at hf
      refine e_iload_n (pc := 60) C dX3_readValue_60 2 rfl rfl ?_
      obtain ⟨j_86, ej_86, hf⟩ := nn_e hf
      have W_86 : ∀ (uu_86 : Unit), j_86 uu_86 = some y → EE G p l e ({ frames := 1, cells := 0, slots := 0, locals := 21 } : Room) s m args below meth c (none, rh h T y) 0 0 86 [(0, .ref (T + 6)), (1, .int x1), (2, .int s0_27)] [] (rh h T w2) 0 0 := by
        intro uu_86 hf
        rw [ej_86] at hf
        refine e_aload_n (pc := 86) C dX3_readValue_86 0 rfl rfl ?_
        refine r_geti (pc := 87) 6 3 3 hI C dX3_readValue_87 (by decide) (by decide) g243 rfl rT6 (by decide) ?_
        refine e_bipush (v := (60 : Int32)) (pc := 90) C dX3_readValue_90 (by decide) ?_
        rcases it_e hf with ⟨c9, hf⟩ | ⟨c9, hf⟩
        · refine e_icmp_le (pc := 92) (tgt := 103) C dX3_readValue_92 (by decide) (fun _ => ?_) (fun q => absurd c9 q)
          exact W_103 w2 hf
        · refine e_icmp_le (pc := 92) (tgt := 103) C dX3_readValue_92 (by decide) (fun q => absurd q c9) (fun _ => ?_)
          refine e_aload_n (pc := 95) C dX3_readValue_95 0 rfl rfl ?_
          refine r_getr (pc := 96) 6 3 0 0 hI C dX3_readValue_96 (by decide) (by decide) g240 rfl rT6 (by decide) ?_
          refine e_iconst (v := (3 : Int32)) (pc := 99) C dX3_readValue_99 (by decide) ?_
          obtain ⟨w10, y11, hf⟩ := ob_e hf
          refine e_callVv (pc := 100) (st := []) 8 C (st_X8_fail hI y11) dX3_readValue_100 (by decide) (hI.1 _ rT0) g817 g723 g724 g147 g725 hd_X8_fail rfl ⟨Nat.le_of_ble_eq_true rfl, Nat.le_of_ble_eq_true rfl⟩ ⟨Nat.le_of_ble_eq_true rfl, Nat.le_of_ble_eq_true rfl⟩ rfl (Nat.le_of_ble_eq_true rfl) ?_
          exact W_103 w10 hf
      rcases it_e hf with ⟨c12, hf⟩ | ⟨c12, hf⟩
      · refine e_if_ne (pc := 61) (tgt := 86) C dX3_readValue_61 (by decide) (fun q => absurd c12 q) (fun _ => ?_)
        refine e_aload_n (pc := 64) C dX3_readValue_64 0 rfl rfl ?_
        refine r_getr (pc := 65) 6 3 0 0 hI C dX3_readValue_65 (by decide) (by decide) g240 rfl rT6 (by decide) ?_
        refine r_getiN (pc := 68) 0 8 8 hI C dX3_readValue_68 (by decide) (by decide) g193 rfl rT0 (by decide) ?_
        refine e_iconst (v := (-1 : Int32)) (pc := 71) C dX3_readValue_71 (by decide) ?_
        rcases it_e hf with ⟨c13, hf⟩ | ⟨c13, hf⟩
        · refine e_icmp_ne (pc := 72) (tgt := 86) C dX3_readValue_72 (by decide) (fun q => absurd c13 q) (fun _ => ?_)
          refine e_aload_n (pc := 75) C dX3_readValue_75 0 rfl rfl ?_
          refine r_getr (pc := 76) 6 3 0 0 hI C dX3_readValue_76 (by decide) (by decide) g240 rfl rT6 (by decide) ?_
          refine e_iconst (v := (1 : Int32)) (pc := 79) C dX3_readValue_79 (by decide) ?_
          obtain ⟨w14, y15, hf⟩ := ob_e hf
          refine e_callVv (pc := 80) (st := []) 8 C (st_X8_fail hI y15) dX3_readValue_80 (by decide) (hI.1 _ rT0) g817 g723 g724 g147 g725 hd_X8_fail rfl ⟨Nat.le_of_ble_eq_true rfl, Nat.le_of_ble_eq_true rfl⟩ ⟨Nat.le_of_ble_eq_true rfl, Nat.le_of_ble_eq_true rfl⟩ rfl (Nat.le_of_ble_eq_true rfl) ?_
          refine e_goto (pc := 83) (tgt := 103) C dX3_readValue_83 (by decide) ?_
          exact W_103 w14 hf
        · refine e_icmp_ne (pc := 72) (tgt := 86) C dX3_readValue_72 (by decide) (fun _ => ?_) (fun q => absurd q c13)
          exact W_86 () hf
      · refine e_if_ne (pc := 61) (tgt := 86) C dX3_readValue_61 (by decide) (fun _ => ?_) (fun q => absurd q c12)
        exact W_86 () hf
    rcases it_e hf with ⟨c16, hf⟩ | ⟨c16, hf⟩
    · refine e_if_ne (pc := 39) (tgt := 60) C dX3_readValue_39 (by decide) (fun q => absurd c16 q) (fun _ => ?_)
      refine e_iload_n (pc := 42) C dX3_readValue_42 2 rfl rfl ?_
      refine e_sipush (v := (256 : Int32)) (pc := 43) C dX3_readValue_43 (by decide) ?_
      rcases it_e hf with ⟨c17, hf⟩ | ⟨c17, hf⟩
      · refine e_icmp_eq (pc := 46) (tgt := 60) C dX3_readValue_46 (by decide) (fun _ => ?_) (fun q => absurd c17 q)
        refine e_lv (lv2 := [(0, .ref (T + 6)), (1, .int x1), (2, .int s0_27)]) [1, 2, 0] rfl ?_
        exact W_60 () hf
      · refine e_icmp_eq (pc := 46) (tgt := 60) C dX3_readValue_46 (by decide) (fun q => absurd q c17) (fun _ => ?_)
        refine e_aload_n (pc := 49) C dX3_readValue_49 1 rfl rfl ?_
        refine r_getr (pc := 50) 6 3 0 0 hI C dX3_readValue_50 (by decide) (by decide) g240 rfl rT6 (by decide) ?_
        refine e_iconst (v := (0 : Int32)) (pc := 53) C dX3_readValue_53 (by decide) ?_
        obtain ⟨w18, y19, hf⟩ := ob_e hf
        refine e_callVv (pc := 54) (st := []) 8 C (st_X8_fail hI y19) dX3_readValue_54 (by decide) (hI.1 _ rT0) g817 g723 g724 g147 g725 hd_X8_fail rfl ⟨Nat.le_of_ble_eq_true rfl, Nat.le_of_ble_eq_true rfl⟩ ⟨Nat.le_of_ble_eq_true rfl, Nat.le_of_ble_eq_true rfl⟩ rfl (Nat.le_of_ble_eq_true rfl) ?_
        refine e_goto (pc := 57) (tgt := 103) C dX3_readValue_57 (by decide) ?_
        refine e_lv (lv2 := [(0, .ref (T + 6)), (1, .int x1), (2, .int s0_27)]) [1, 2, 0] rfl ?_
        exact W_103 w18 hf
    · refine e_if_ne (pc := 39) (tgt := 60) C dX3_readValue_39 (by decide) (fun _ => ?_) (fun q => absurd q c16)
      refine e_lv (lv2 := [(0, .ref (T + 6)), (1, .int x1), (2, .int s0_27)]) [1, 2, 0] rfl ?_
      exact W_60 () hf
  obtain ⟨j_26, ej_26, hf⟩ := nn_e hf
  have W_26 : ∀ (uu_26 : Unit), j_26 uu_26 = some y → EE G p l e ({ frames := 1, cells := 0, slots := 0, locals := 21 } : Room) s m args below meth c (none, rh h T y) 0 0 26 [(0, .ref (T + 6)), (1, .int x1)] [] (rh h T w) 0 0 := by
    intro uu_26 hf
    rw [ej_26] at hf
    refine e_iconst (v := (0 : Int32)) (pc := 26) C dX3_readValue_26 (by decide) ?_
    exact W_27 (0 : Int32) hf
  rcases it_e hf with ⟨c20, hf⟩ | ⟨c20, hf⟩
  · refine e_icmp_lt (pc := 12) (tgt := 26) C dX3_readValue_12 (by decide) (fun _ => ?_) (fun q => absurd c20 q)
    refine e_lv (lv2 := [(0, .ref (T + 6)), (1, .int x1)]) [1, 0] rfl ?_
    exact W_26 () hf
  · refine e_icmp_lt (pc := 12) (tgt := 26) C dX3_readValue_12 (by decide) (fun q => absurd q c20) (fun _ => ?_)
    refine e_iload_n (pc := 15) C dX3_readValue_15 0 rfl rfl ?_
    refine e_sipush (v := (312 : Int32)) (pc := 16) C dX3_readValue_16 (by decide) ?_
    rcases it_e hf with ⟨c21, hf⟩ | ⟨c21, hf⟩
    · refine e_icmp_gt (pc := 19) (tgt := 26) C dX3_readValue_19 (by decide) (fun _ => ?_) (fun q => absurd c21 q)
      refine e_lv (lv2 := [(0, .ref (T + 6)), (1, .int x1)]) [1, 0] rfl ?_
      exact W_26 () hf
    · refine e_icmp_gt (pc := 19) (tgt := 26) C dX3_readValue_19 (by decide) (fun q => absurd q c21) (fun _ => ?_)
      refine e_iconst (v := (1 : Int32)) (pc := 22) C dX3_readValue_22 (by decide) ?_
      refine e_goto (pc := 23) (tgt := 27) C dX3_readValue_23 (by decide) ?_
      refine e_lv (lv2 := [(0, .ref (T + 6)), (1, .int x1)]) [1, 0] rfl ?_
      exact W_27 (1 : Int32) hf
theorem dX3_isReckoning_0 : decode cX3_isReckoning 0 = .ok (.iload_n 0, 1) := by decide +kernel
theorem dX3_isReckoning_1 : decode cX3_isReckoning 1 = .ok (.bipush 43, 2) := by decide +kernel
theorem dX3_isReckoning_3 : decode cX3_isReckoning 3 = .ok (.if_icmp .eq 27, 3) := by decide +kernel
theorem dX3_isReckoning_6 : decode cX3_isReckoning 6 = .ok (.iload_n 0, 1) := by decide +kernel
theorem dX3_isReckoning_7 : decode cX3_isReckoning 7 = .ok (.bipush 45, 2) := by decide +kernel
theorem dX3_isReckoning_9 : decode cX3_isReckoning 9 = .ok (.if_icmp .eq 21, 3) := by decide +kernel
theorem dX3_isReckoning_12 : decode cX3_isReckoning 12 = .ok (.iload_n 0, 1) := by decide +kernel
theorem dX3_isReckoning_13 : decode cX3_isReckoning 13 = .ok (.bipush 42, 2) := by decide +kernel
theorem dX3_isReckoning_15 : decode cX3_isReckoning 15 = .ok (.if_icmp .eq 15, 3) := by decide +kernel
theorem dX3_isReckoning_18 : decode cX3_isReckoning 18 = .ok (.iload_n 0, 1) := by decide +kernel
theorem dX3_isReckoning_19 : decode cX3_isReckoning 19 = .ok (.bipush 47, 2) := by decide +kernel
theorem dX3_isReckoning_21 : decode cX3_isReckoning 21 = .ok (.if_icmp .eq 9, 3) := by decide +kernel
theorem dX3_isReckoning_24 : decode cX3_isReckoning 24 = .ok (.iload_n 0, 1) := by decide +kernel
theorem dX3_isReckoning_25 : decode cX3_isReckoning 25 = .ok (.bipush 37, 2) := by decide +kernel
theorem dX3_isReckoning_27 : decode cX3_isReckoning 27 = .ok (.if_icmp .ne 7, 3) := by decide +kernel
theorem dX3_isReckoning_30 : decode cX3_isReckoning 30 = .ok (.iconst 1, 1) := by decide +kernel
theorem dX3_isReckoning_31 : decode cX3_isReckoning 31 = .ok (.goto 4, 3) := by decide +kernel
theorem dX3_isReckoning_34 : decode cX3_isReckoning 34 = .ok (.iconst 0, 1) := by decide +kernel
theorem dX3_isReckoning_35 : decode cX3_isReckoning 35 = .ok (.ireturn, 1) := by decide +kernel
def s_X3_isReckoning (G : GG) (v0 : Int32) (w : MS) : Option (Int32 × MS) :=
if v0 = (43 : Int32) then (some ((1 : Int32), w)) else
if v0 = (45 : Int32) then (some ((1 : Int32), w)) else
if v0 = (42 : Int32) then (some ((1 : Int32), w)) else
if v0 = (47 : Int32) then (some ((1 : Int32), w)) else
if v0 = (37 : Int32) then (some ((1 : Int32), w)) else
some ((0 : Int32), w)
set_option maxHeartbeats 4000000 in
set_option maxRecDepth 100000 in
theorem st_X3_isReckoning {G : GG} {l : Launch} {T : Nat} {h : AH} (hI : RI h T) {v0 : Int32} {w : MS} {y : Int32 × MS} (hf : s_X3_isReckoning G v0 w = some y) : Ct G l yX3_isReckoning cX3_isReckoning 1 (some .boolean) 0 0 0 0 [.int v0] (rh h T w) (some (.int y.1), rh h T y.2) := by
  refine ct_of (by decide) (Nat.le_of_ble_eq_true rfl) ?_
  intro p e s m args below meth c C hm hr hin
  have C : Cx G cX3_isReckoning RX3 p s m args meth c := C
  refine e_lv (lv2 := [(0, .int v0)]) [0] rfl ?_
  unfold s_X3_isReckoning at hf
  refine e_iload_n (pc := 0) C dX3_isReckoning_0 0 rfl rfl ?_
  refine e_bipush (v := (43 : Int32)) (pc := 1) C dX3_isReckoning_1 (by decide) ?_
  rcases it_e hf with ⟨c1, hf⟩ | ⟨c1, hf⟩
  · refine e_icmp_eq (pc := 3) (tgt := 30) C dX3_isReckoning_3 (by decide) (fun _ => ?_) (fun q => absurd c1 q)
    refine e_iconst (v := (1 : Int32)) (pc := 30) C dX3_isReckoning_30 (by decide) ?_
    refine e_goto (pc := 31) (tgt := 35) C dX3_isReckoning_31 (by decide) ?_
    obtain rfl := so_e hf
    exact e_zret (pc := 35) (v := (1 : Int32)) C hr (nz_ok (by decide)) dX3_isReckoning_35 (Nat.le_of_ble_eq_true rfl) (Nat.le_of_ble_eq_true rfl)
  · refine e_icmp_eq (pc := 3) (tgt := 30) C dX3_isReckoning_3 (by decide) (fun q => absurd q c1) (fun _ => ?_)
    refine e_iload_n (pc := 6) C dX3_isReckoning_6 0 rfl rfl ?_
    refine e_bipush (v := (45 : Int32)) (pc := 7) C dX3_isReckoning_7 (by decide) ?_
    rcases it_e hf with ⟨c2, hf⟩ | ⟨c2, hf⟩
    · refine e_icmp_eq (pc := 9) (tgt := 30) C dX3_isReckoning_9 (by decide) (fun _ => ?_) (fun q => absurd c2 q)
      refine e_iconst (v := (1 : Int32)) (pc := 30) C dX3_isReckoning_30 (by decide) ?_
      refine e_goto (pc := 31) (tgt := 35) C dX3_isReckoning_31 (by decide) ?_
      obtain rfl := so_e hf
      exact e_zret (pc := 35) (v := (1 : Int32)) C hr (nz_ok (by decide)) dX3_isReckoning_35 (Nat.le_of_ble_eq_true rfl) (Nat.le_of_ble_eq_true rfl)
    · refine e_icmp_eq (pc := 9) (tgt := 30) C dX3_isReckoning_9 (by decide) (fun q => absurd q c2) (fun _ => ?_)
      refine e_iload_n (pc := 12) C dX3_isReckoning_12 0 rfl rfl ?_
      refine e_bipush (v := (42 : Int32)) (pc := 13) C dX3_isReckoning_13 (by decide) ?_
      rcases it_e hf with ⟨c3, hf⟩ | ⟨c3, hf⟩
      · refine e_icmp_eq (pc := 15) (tgt := 30) C dX3_isReckoning_15 (by decide) (fun _ => ?_) (fun q => absurd c3 q)
        refine e_iconst (v := (1 : Int32)) (pc := 30) C dX3_isReckoning_30 (by decide) ?_
        refine e_goto (pc := 31) (tgt := 35) C dX3_isReckoning_31 (by decide) ?_
        obtain rfl := so_e hf
        exact e_zret (pc := 35) (v := (1 : Int32)) C hr (nz_ok (by decide)) dX3_isReckoning_35 (Nat.le_of_ble_eq_true rfl) (Nat.le_of_ble_eq_true rfl)
      · refine e_icmp_eq (pc := 15) (tgt := 30) C dX3_isReckoning_15 (by decide) (fun q => absurd q c3) (fun _ => ?_)
        refine e_iload_n (pc := 18) C dX3_isReckoning_18 0 rfl rfl ?_
        refine e_bipush (v := (47 : Int32)) (pc := 19) C dX3_isReckoning_19 (by decide) ?_
        rcases it_e hf with ⟨c4, hf⟩ | ⟨c4, hf⟩
        · refine e_icmp_eq (pc := 21) (tgt := 30) C dX3_isReckoning_21 (by decide) (fun _ => ?_) (fun q => absurd c4 q)
          refine e_iconst (v := (1 : Int32)) (pc := 30) C dX3_isReckoning_30 (by decide) ?_
          refine e_goto (pc := 31) (tgt := 35) C dX3_isReckoning_31 (by decide) ?_
          obtain rfl := so_e hf
          exact e_zret (pc := 35) (v := (1 : Int32)) C hr (nz_ok (by decide)) dX3_isReckoning_35 (Nat.le_of_ble_eq_true rfl) (Nat.le_of_ble_eq_true rfl)
        · refine e_icmp_eq (pc := 21) (tgt := 30) C dX3_isReckoning_21 (by decide) (fun q => absurd q c4) (fun _ => ?_)
          refine e_iload_n (pc := 24) C dX3_isReckoning_24 0 rfl rfl ?_
          refine e_bipush (v := (37 : Int32)) (pc := 25) C dX3_isReckoning_25 (by decide) ?_
          rcases it_e hf with ⟨c5, hf⟩ | ⟨c5, hf⟩
          · refine e_icmp_ne (pc := 27) (tgt := 34) C dX3_isReckoning_27 (by decide) (fun q => absurd c5 q) (fun _ => ?_)
            refine e_iconst (v := (1 : Int32)) (pc := 30) C dX3_isReckoning_30 (by decide) ?_
            refine e_goto (pc := 31) (tgt := 35) C dX3_isReckoning_31 (by decide) ?_
            obtain rfl := so_e hf
            exact e_zret (pc := 35) (v := (1 : Int32)) C hr (nz_ok (by decide)) dX3_isReckoning_35 (Nat.le_of_ble_eq_true rfl) (Nat.le_of_ble_eq_true rfl)
          · refine e_icmp_ne (pc := 27) (tgt := 34) C dX3_isReckoning_27 (by decide) (fun _ => ?_) (fun q => absurd q c5)
            refine e_iconst (v := (0 : Int32)) (pc := 34) C dX3_isReckoning_34 (by decide) ?_
            obtain rfl := so_e hf
            exact e_zret (pc := 35) (v := (0 : Int32)) C hr (nz_ok (by decide)) dX3_isReckoning_35 (Nat.le_of_ble_eq_true rfl) (Nat.le_of_ble_eq_true rfl)
theorem dX3_readSum_0 : decode cX3_readSum 0 = .ok (.aload_n 0, 1) := by decide +kernel
theorem dX3_readSum_1 : decode cX3_readSum 1 = .ok (.invokevirtual 83, 3) := by decide +kernel
theorem dX3_readSum_4 : decode cX3_readSum 4 = .ok (.iconst 0, 1) := by decide +kernel
theorem dX3_readSum_5 : decode cX3_readSum 5 = .ok (.istore_n 1, 1) := by decide +kernel
theorem dX3_readSum_6 : decode cX3_readSum 6 = .ok (.iconst 0, 1) := by decide +kernel
theorem dX3_readSum_7 : decode cX3_readSum 7 = .ok (.istore_n 2, 1) := by decide +kernel
theorem dX3_readSum_8 : decode cX3_readSum 8 = .ok (.iload_n 2, 1) := by decide +kernel
theorem dX3_readSum_9 : decode cX3_readSum 9 = .ok (.sipush 400, 3) := by decide +kernel
theorem dX3_readSum_12 : decode cX3_readSum 12 = .ok (.if_icmp .ge 101, 3) := by decide +kernel
theorem dX3_readSum_15 : decode cX3_readSum 15 = .ok (.aload_n 0, 1) := by decide +kernel
theorem dX3_readSum_16 : decode cX3_readSum 16 = .ok (.getfield 22, 3) := by decide +kernel
theorem dX3_readSum_19 : decode cX3_readSum 19 = .ok (.getfield 34, 3) := by decide +kernel
theorem dX3_readSum_22 : decode cX3_readSum 22 = .ok (.ifCond .ne 91, 3) := by decide +kernel
theorem dX3_readSum_25 : decode cX3_readSum 25 = .ok (.aload_n 0, 1) := by decide +kernel
theorem dX3_readSum_26 : decode cX3_readSum 26 = .ok (.getfield 22, 3) := by decide +kernel
theorem dX3_readSum_29 : decode cX3_readSum 29 = .ok (.getfield 44, 3) := by decide +kernel
theorem dX3_readSum_32 : decode cX3_readSum 32 = .ok (.invokestatic 86, 3) := by decide +kernel
theorem dX3_readSum_35 : decode cX3_readSum 35 = .ok (.ifCond .eq 78, 3) := by decide +kernel
theorem dX3_readSum_38 : decode cX3_readSum 38 = .ok (.aload_n 0, 1) := by decide +kernel
theorem dX3_readSum_39 : decode cX3_readSum 39 = .ok (.getfield 22, 3) := by decide +kernel
theorem dX3_readSum_42 : decode cX3_readSum 42 = .ok (.getfield 44, 3) := by decide +kernel
theorem dX3_readSum_45 : decode cX3_readSum 45 = .ok (.istore_n 3, 1) := by decide +kernel
theorem dX3_readSum_46 : decode cX3_readSum 46 = .ok (.iload_n 3, 1) := by decide +kernel
theorem dX3_readSum_47 : decode cX3_readSum 47 = .ok (.bipush 43, 2) := by decide +kernel
theorem dX3_readSum_49 : decode cX3_readSum 49 = .ok (.if_icmp .eq 9, 3) := by decide +kernel
theorem dX3_readSum_52 : decode cX3_readSum 52 = .ok (.iload_n 3, 1) := by decide +kernel
theorem dX3_readSum_53 : decode cX3_readSum 53 = .ok (.bipush 45, 2) := by decide +kernel
theorem dX3_readSum_55 : decode cX3_readSum 55 = .ok (.if_icmp .ne 7, 3) := by decide +kernel
theorem dX3_readSum_58 : decode cX3_readSum 58 = .ok (.iconst 1, 1) := by decide +kernel
theorem dX3_readSum_59 : decode cX3_readSum 59 = .ok (.goto 4, 3) := by decide +kernel
theorem dX3_readSum_62 : decode cX3_readSum 62 = .ok (.iconst 0, 1) := by decide +kernel
theorem dX3_readSum_63 : decode cX3_readSum 63 = .ok (.istore 4, 2) := by decide +kernel
theorem dX3_readSum_65 : decode cX3_readSum 65 = .ok (.iload 4, 2) := by decide +kernel
theorem dX3_readSum_67 : decode cX3_readSum 67 = .ok (.ifCond .eq 13, 3) := by decide +kernel
theorem dX3_readSum_70 : decode cX3_readSum 70 = .ok (.iload_n 1, 1) := by decide +kernel
theorem dX3_readSum_71 : decode cX3_readSum 71 = .ok (.ifCond .eq 9, 3) := by decide +kernel
theorem dX3_readSum_74 : decode cX3_readSum 74 = .ok (.aload_n 0, 1) := by decide +kernel
theorem dX3_readSum_75 : decode cX3_readSum 75 = .ok (.iload_n 1, 1) := by decide +kernel
theorem dX3_readSum_76 : decode cX3_readSum 76 = .ok (.ineg, 1) := by decide +kernel
theorem dX3_readSum_77 : decode cX3_readSum 77 = .ok (.invokevirtual 53, 3) := by decide +kernel
theorem dX3_readSum_80 : decode cX3_readSum 80 = .ok (.aload_n 0, 1) := by decide +kernel
theorem dX3_readSum_81 : decode cX3_readSum 81 = .ok (.getfield 22, 3) := by decide +kernel
theorem dX3_readSum_84 : decode cX3_readSum 84 = .ok (.invokevirtual 47, 3) := by decide +kernel
theorem dX3_readSum_87 : decode cX3_readSum 87 = .ok (.aload_n 0, 1) := by decide +kernel
theorem dX3_readSum_88 : decode cX3_readSum 88 = .ok (.invokevirtual 83, 3) := by decide +kernel
theorem dX3_readSum_91 : decode cX3_readSum 91 = .ok (.iload 4, 2) := by decide +kernel
theorem dX3_readSum_93 : decode cX3_readSum 93 = .ok (.ifCond .eq 8, 3) := by decide +kernel
theorem dX3_readSum_96 : decode cX3_readSum 96 = .ok (.iload_n 3, 1) := by decide +kernel
theorem dX3_readSum_97 : decode cX3_readSum 97 = .ok (.istore_n 1, 1) := by decide +kernel
theorem dX3_readSum_98 : decode cX3_readSum 98 = .ok (.goto 9, 3) := by decide +kernel
theorem dX3_readSum_101 : decode cX3_readSum 101 = .ok (.aload_n 0, 1) := by decide +kernel
theorem dX3_readSum_102 : decode cX3_readSum 102 = .ok (.iload_n 3, 1) := by decide +kernel
theorem dX3_readSum_103 : decode cX3_readSum 103 = .ok (.ineg, 1) := by decide +kernel
theorem dX3_readSum_104 : decode cX3_readSum 104 = .ok (.invokevirtual 53, 3) := by decide +kernel
theorem dX3_readSum_107 : decode cX3_readSum 107 = .ok (.iinc 2 1, 3) := by decide +kernel
theorem dX3_readSum_110 : decode cX3_readSum 110 = .ok (.goto (-102), 3) := by decide +kernel
theorem dX3_readSum_113 : decode cX3_readSum 113 = .ok (.iload_n 1, 1) := by decide +kernel
theorem dX3_readSum_114 : decode cX3_readSum 114 = .ok (.ifCond .eq 9, 3) := by decide +kernel
theorem dX3_readSum_117 : decode cX3_readSum 117 = .ok (.aload_n 0, 1) := by decide +kernel
theorem dX3_readSum_118 : decode cX3_readSum 118 = .ok (.iload_n 1, 1) := by decide +kernel
theorem dX3_readSum_119 : decode cX3_readSum 119 = .ok (.ineg, 1) := by decide +kernel
theorem dX3_readSum_120 : decode cX3_readSum 120 = .ok (.invokevirtual 53, 3) := by decide +kernel
theorem dX3_readSum_123 : decode cX3_readSum 123 = .ok (.return_, 1) := by decide +kernel
def S_X3_readSum_8 (G : GG) (K_113 : Int32 → MS → Option (MS)) (self_8 : Int32 → Int32 → MS → Option (MS)) (v1 : Int32) (v2 : Int32) (w : MS) : Option (MS) :=
if (400 : Int32) ≤ v2 then (K_113 v1 w) else
if (w.1 0 9) = 0 then (cw (s_X3_isReckoning G (w.1 0 7) w) fun r7 w5 =>
if r7 = 0 then (K_113 v1 w5) else
nn (w5.1 0 7) fun x9 =>
nn (fun (s0_63 : Int32) => (nn (fun (h_80 : MS) => (ob (s_X8_advance G h_80) fun w10 =>
ob (s_X3_readValue G w10) fun w12 =>
nn (fun (v1_107 : Int32) (h_107 : MS) => (nn (v2 + (1 : Int32)) fun x14 =>
self_8 v1_107 x14 h_107)) fun j_107 =>
if s0_63 = 0 then (ob (s_X3_write G (-x9) w12) fun w16 =>
j_107 v1 w16) else
j_107 x9 w12)) fun j_80 =>
if s0_63 = 0 then (j_80 w5) else
if v1 = 0 then (j_80 w5) else
ob (s_X3_write G (-v1) w5) fun w20 =>
j_80 w20)) fun j_63 =>
nn (fun (uu_58 : Unit) => (j_63 (1 : Int32))) fun j_58 =>
if x9 = (43 : Int32) then (j_58 ()) else
if x9 = (45 : Int32) then (j_58 ()) else
j_63 (0 : Int32)) else
K_113 v1 w
def s_X3_readSum (G : GG) (w : MS) : Option (MS) :=
ob (s_X3_readValue G w) fun w1 =>
lw2 (S_X3_readSum_8 G (fun (v1_113 : Int32) (h_113 : MS) => (if v1_113 = 0 then (some h_113) else
ob (s_X3_write G (-v1_113) h_113) fun w25 =>
some w25))) bN (0 : Int32) (0 : Int32) w1
set_option maxHeartbeats 4000000 in
set_option maxRecDepth 100000 in
theorem es_X3_readSum_8 {G : GG} {p : Program} {l : Launch} {e : Env} {s : State} {m : MethodId} {args : Array Value} {below : List Frame} {meth : Method} {c : Code} {y : MS} {T : Nat} {h : AH} (hI : RI h T) (C : Cx G cX3_readSum RX3 p s m args meth c) (hm : c.maxLocals = 5) (hr : meth.sig.returnType = none) (hin : meth.name = yX3_readSum.name) {K_113 : Int32 → MS → Option (MS)} (hK_113 : ∀ (u1 : Int32) (w : MS), K_113 u1 w = some y → EE G p l e ({ frames := 2, cells := 0, slots := 0, locals := 43 } : Room) s m args below meth c (none, rh h T y) 0 0 113 [(0, .ref (T + 6)), (1, .int u1)] [] (rh h T w) 0 0) :
    ∀ (n : Nat) (v1 : Int32) (v2 : Int32) (w : MS), lw2 (S_X3_readSum_8 G K_113) n v1 v2 w = some y → EE G p l e ({ frames := 2, cells := 0, slots := 0, locals := 43 } : Room) s m args below meth c (none, rh h T y) 0 0 8 [(0, .ref (T + 6)), (1, .int v1), (2, .int v2)] [] (rh h T w) 0 0 := by
  intro n
  induction n with
  | zero => intro v1 v2 w hf; exact (no_e hf).elim
  | succ n ih_8 =>
    intro v1 v2 w hf
    have hf : S_X3_readSum_8 G K_113 (lw2 (S_X3_readSum_8 G K_113) n) v1 v2 w = some y := hf
    generalize lw2 (S_X3_readSum_8 G K_113) n = self_8 at hf ih_8
    unfold S_X3_readSum_8 at hf
    refine e_iload_n (pc := 8) C dX3_readSum_8 2 rfl rfl ?_
    refine e_sipush (v := (400 : Int32)) (pc := 9) C dX3_readSum_9 (by decide) ?_
    rcases it_e hf with ⟨c3, hf⟩ | ⟨c3, hf⟩
    · refine e_icmp_ge (pc := 12) (tgt := 113) C dX3_readSum_12 (by decide) (fun _ => ?_) (fun q => absurd c3 q)
      refine e_lv (lv2 := [(0, .ref (T + 6)), (1, .int v1)]) [0, 1] rfl ?_
      exact hK_113 v1 w hf
    · refine e_icmp_ge (pc := 12) (tgt := 113) C dX3_readSum_12 (by decide) (fun q => absurd q c3) (fun _ => ?_)
      refine e_aload_n (pc := 15) C dX3_readSum_15 0 rfl rfl ?_
      refine r_getr (pc := 16) 6 3 0 0 hI C dX3_readSum_16 (by decide) (by decide) g240 rfl rT6 (by decide) ?_
      refine r_getiN (pc := 19) 0 8 9 hI C dX3_readSum_19 (by decide) (by decide) g195 rfl rT0 (by decide) ?_
      rcases it_e hf with ⟨c4, hf⟩ | ⟨c4, hf⟩
      · refine e_if_ne (pc := 22) (tgt := 113) C dX3_readSum_22 (by decide) (fun q => absurd c4 q) (fun _ => ?_)
        refine e_aload_n (pc := 25) C dX3_readSum_25 0 rfl rfl ?_
        refine r_getr (pc := 26) 6 3 0 0 hI C dX3_readSum_26 (by decide) (by decide) g240 rfl rT6 (by decide) ?_
        refine r_getiN (pc := 29) 0 8 7 hI C dX3_readSum_29 (by decide) (by decide) g191 rfl rT0 (by decide) ?_
        obtain ⟨r7, w5, y6, hf⟩ := cw_e hf
        refine e_callSi (pc := 32) (st := []) C (st_X3_isReckoning hI y6) dX3_readSum_32 g831 g832 g149 g833 hd_X3_isReckoning rfl ⟨Nat.le_of_ble_eq_true rfl, Nat.le_of_ble_eq_true rfl⟩ ⟨Nat.le_of_ble_eq_true rfl, Nat.le_of_ble_eq_true rfl⟩ rfl (Nat.le_of_ble_eq_true rfl) ?_
        rcases it_e hf with ⟨c8, hf⟩ | ⟨c8, hf⟩
        · refine e_if_eq (pc := 35) (tgt := 113) C dX3_readSum_35 (by decide) (fun _ => ?_) (fun q => absurd c8 q)
          refine e_lv (lv2 := [(0, .ref (T + 6)), (1, .int v1)]) [0, 1] rfl ?_
          exact hK_113 v1 w5 hf
        · refine e_if_eq (pc := 35) (tgt := 113) C dX3_readSum_35 (by decide) (fun q => absurd q c8) (fun _ => ?_)
          refine e_aload_n (pc := 38) C dX3_readSum_38 0 rfl rfl ?_
          refine r_getr (pc := 39) 6 3 0 0 hI C dX3_readSum_39 (by decide) (by decide) g240 rfl rT6 (by decide) ?_
          refine r_getiN (pc := 42) 0 8 7 hI C dX3_readSum_42 (by decide) (by decide) g191 rfl rT0 (by decide) ?_
          obtain ⟨x9, ex9, hf⟩ := nn_e hf
          refine e_topi ex9 ?_
          refine e_istore_n (pc := 45) (lv2 := [(3, .int x9), (0, .ref (T + 6)), (1, .int v1), (2, .int v2)]) C hm dX3_readSum_45 rfl (by decide) rfl ?_
          refine e_iload_n (pc := 46) C dX3_readSum_46 0 rfl rfl ?_
          refine e_bipush (v := (43 : Int32)) (pc := 47) C dX3_readSum_47 (by decide) ?_
          obtain ⟨j_63, ej_63, hf⟩ := nn_e hf
          have W_63 : ∀ (s0_63 : Int32), j_63 s0_63 = some y → EE G p l e ({ frames := 2, cells := 0, slots := 0, locals := 43 } : Room) s m args below meth c (none, rh h T y) 0 0 63 [(0, .ref (T + 6)), (1, .int v1), (2, .int v2), (3, .int x9)] [.int s0_63] (rh h T w5) 0 0 := by
            intro s0_63 hf
            rw [ej_63] at hf
            refine e_istore (pc := 63) (lv2 := [(4, .int s0_63), (0, .ref (T + 6)), (1, .int v1), (2, .int v2), (3, .int x9)]) C hm dX3_readSum_63 (by decide) rfl ?_
            refine e_iload (pc := 65) C dX3_readSum_65 0 rfl ?_
            obtain ⟨j_80, ej_80, hf⟩ := nn_e hf
            have W_80 : ∀ (h_80 : MS), j_80 h_80 = some y → EE G p l e ({ frames := 2, cells := 0, slots := 0, locals := 43 } : Room) s m args below meth c (none, rh h T y) 0 0 80 [(0, .ref (T + 6)), (1, .int v1), (2, .int v2), (3, .int x9), (4, .int s0_63)] [] (rh h T h_80) 0 0 := by
              intro h_80 hf
              rw [ej_80] at hf
              refine e_aload_n (pc := 80) C dX3_readSum_80 0 rfl rfl ?_
              refine r_getr (pc := 81) 6 3 0 0 hI C dX3_readSum_81 (by decide) (by decide) g240 rfl rT6 (by decide) ?_
              obtain ⟨w10, y11, hf⟩ := ob_e hf
              refine e_callVv (pc := 84) (st := []) 8 C (st_X8_advance hI y11) dX3_readSum_84 (by decide) (hI.1 _ rT0) g818 g715 g716 g147 g717 hd_X8_advance rfl ⟨Nat.le_of_ble_eq_true rfl, Nat.le_of_ble_eq_true rfl⟩ ⟨Nat.le_of_ble_eq_true rfl, Nat.le_of_ble_eq_true rfl⟩ rfl (Nat.le_of_ble_eq_true rfl) ?_
              refine e_aload_n (pc := 87) C dX3_readSum_87 0 rfl rfl ?_
              obtain ⟨w12, y13, hf⟩ := ob_e hf
              refine e_callVv (pc := 88) (st := []) 3 C (st_X3_readValue hI y13) dX3_readSum_88 (by decide) (hI.1 _ rT6) g823 g825 g18 g149 g826 hd_X3_readValue rfl ⟨Nat.le_of_ble_eq_true rfl, Nat.le_of_ble_eq_true rfl⟩ ⟨Nat.le_of_ble_eq_true rfl, Nat.le_of_ble_eq_true rfl⟩ rfl (Nat.le_of_ble_eq_true rfl) ?_
              refine e_iload (pc := 91) C dX3_readSum_91 4 rfl ?_
              obtain ⟨j_107, ej_107, hf⟩ := nn_e hf
              have W_107 : ∀ (v1_107 : Int32) (h_107 : MS), j_107 v1_107 h_107 = some y → EE G p l e ({ frames := 2, cells := 0, slots := 0, locals := 43 } : Room) s m args below meth c (none, rh h T y) 0 0 107 [(0, .ref (T + 6)), (1, .int v1_107), (2, .int v2)] [] (rh h T h_107) 0 0 := by
                intro v1_107 h_107 hf
                rw [ej_107] at hf
                obtain ⟨x14, ex14, hf⟩ := nn_e hf
                refine e_iinc (pc := 107) (v := x14) (lv2 := [(2, .int x14), (0, .ref (T + 6)), (1, .int v1_107)]) C hm dX3_readSum_107 2 rfl (by rw [ex14]; rfl) (by decide) rfl ?_
                refine e_goto (pc := 110) (tgt := 8) C dX3_readSum_110 (by decide) ?_
                refine e_lv (lv2 := [(0, .ref (T + 6)), (1, .int v1_107), (2, .int x14)]) [1, 2, 0] rfl ?_
                exact ih_8 v1_107 x14 h_107 hf
              rcases it_e hf with ⟨c15, hf⟩ | ⟨c15, hf⟩
              · refine e_if_eq (pc := 93) (tgt := 101) C dX3_readSum_93 (by decide) (fun _ => ?_) (fun q => absurd c15 q)
                refine e_aload_n (pc := 101) C dX3_readSum_101 0 rfl rfl ?_
                refine e_iload_n (pc := 102) C dX3_readSum_102 3 rfl rfl ?_
                refine e_ineg (pc := 103) C dX3_readSum_103 ?_
                obtain ⟨w16, y17, hf⟩ := ob_e hf
                refine e_callVv (pc := 104) (st := []) 3 C (st_X3_write hI y17) dX3_readSum_104 (by decide) (hI.1 _ rT6) g827 g829 g19 g149 g830 hd_X3_write rfl ⟨Nat.le_of_ble_eq_true rfl, Nat.le_of_ble_eq_true rfl⟩ ⟨Nat.le_of_ble_eq_true rfl, Nat.le_of_ble_eq_true rfl⟩ rfl (Nat.le_of_ble_eq_true rfl) ?_
                refine e_lv (lv2 := [(0, .ref (T + 6)), (1, .int v1), (2, .int v2)]) [0, 1, 2] rfl ?_
                exact W_107 v1 w16 hf
              · refine e_if_eq (pc := 93) (tgt := 101) C dX3_readSum_93 (by decide) (fun q => absurd q c15) (fun _ => ?_)
                refine e_iload_n (pc := 96) C dX3_readSum_96 3 rfl rfl ?_
                refine e_istore_n (pc := 97) (lv2 := [(1, .int x9), (0, .ref (T + 6)), (2, .int v2), (3, .int x9), (4, .int s0_63)]) C hm dX3_readSum_97 rfl (by decide) rfl ?_
                refine e_goto (pc := 98) (tgt := 107) C dX3_readSum_98 (by decide) ?_
                refine e_lv (lv2 := [(0, .ref (T + 6)), (1, .int x9), (2, .int v2)]) [1, 0, 2] rfl ?_
                exact W_107 x9 w12 hf
            rcases it_e hf with ⟨c18, hf⟩ | ⟨c18, hf⟩
            · refine e_if_eq (pc := 67) (tgt := 80) C dX3_readSum_67 (by decide) (fun _ => ?_) (fun q => absurd c18 q)
              refine e_lv (lv2 := [(0, .ref (T + 6)), (1, .int v1), (2, .int v2), (3, .int x9), (4, .int s0_63)]) [1, 2, 3, 4, 0] rfl ?_
              exact W_80 w5 hf
            · refine e_if_eq (pc := 67) (tgt := 80) C dX3_readSum_67 (by decide) (fun q => absurd q c18) (fun _ => ?_)
              refine e_iload_n (pc := 70) C dX3_readSum_70 2 rfl rfl ?_
              rcases it_e hf with ⟨c19, hf⟩ | ⟨c19, hf⟩
              · refine e_if_eq (pc := 71) (tgt := 80) C dX3_readSum_71 (by decide) (fun _ => ?_) (fun q => absurd c19 q)
                refine e_lv (lv2 := [(0, .ref (T + 6)), (1, .int v1), (2, .int v2), (3, .int x9), (4, .int s0_63)]) [1, 2, 3, 4, 0] rfl ?_
                exact W_80 w5 hf
              · refine e_if_eq (pc := 71) (tgt := 80) C dX3_readSum_71 (by decide) (fun q => absurd q c19) (fun _ => ?_)
                refine e_aload_n (pc := 74) C dX3_readSum_74 1 rfl rfl ?_
                refine e_iload_n (pc := 75) C dX3_readSum_75 2 rfl rfl ?_
                refine e_ineg (pc := 76) C dX3_readSum_76 ?_
                obtain ⟨w20, y21, hf⟩ := ob_e hf
                refine e_callVv (pc := 77) (st := []) 3 C (st_X3_write hI y21) dX3_readSum_77 (by decide) (hI.1 _ rT6) g827 g829 g19 g149 g830 hd_X3_write rfl ⟨Nat.le_of_ble_eq_true rfl, Nat.le_of_ble_eq_true rfl⟩ ⟨Nat.le_of_ble_eq_true rfl, Nat.le_of_ble_eq_true rfl⟩ rfl (Nat.le_of_ble_eq_true rfl) ?_
                refine e_lv (lv2 := [(0, .ref (T + 6)), (1, .int v1), (2, .int v2), (3, .int x9), (4, .int s0_63)]) [1, 2, 3, 4, 0] rfl ?_
                exact W_80 w20 hf
          obtain ⟨j_58, ej_58, hf⟩ := nn_e hf
          have W_58 : ∀ (uu_58 : Unit), j_58 uu_58 = some y → EE G p l e ({ frames := 2, cells := 0, slots := 0, locals := 43 } : Room) s m args below meth c (none, rh h T y) 0 0 58 [(0, .ref (T + 6)), (1, .int v1), (2, .int v2), (3, .int x9)] [] (rh h T w5) 0 0 := by
            intro uu_58 hf
            rw [ej_58] at hf
            refine e_iconst (v := (1 : Int32)) (pc := 58) C dX3_readSum_58 (by decide) ?_
            refine e_goto (pc := 59) (tgt := 63) C dX3_readSum_59 (by decide) ?_
            exact W_63 (1 : Int32) hf
          rcases it_e hf with ⟨c22, hf⟩ | ⟨c22, hf⟩
          · refine e_icmp_eq (pc := 49) (tgt := 58) C dX3_readSum_49 (by decide) (fun _ => ?_) (fun q => absurd c22 q)
            refine e_lv (lv2 := [(0, .ref (T + 6)), (1, .int v1), (2, .int v2), (3, .int x9)]) [1, 2, 3, 0] rfl ?_
            exact W_58 () hf
          · refine e_icmp_eq (pc := 49) (tgt := 58) C dX3_readSum_49 (by decide) (fun q => absurd q c22) (fun _ => ?_)
            refine e_iload_n (pc := 52) C dX3_readSum_52 0 rfl rfl ?_
            refine e_bipush (v := (45 : Int32)) (pc := 53) C dX3_readSum_53 (by decide) ?_
            rcases it_e hf with ⟨c23, hf⟩ | ⟨c23, hf⟩
            · refine e_icmp_ne (pc := 55) (tgt := 62) C dX3_readSum_55 (by decide) (fun q => absurd c23 q) (fun _ => ?_)
              refine e_lv (lv2 := [(0, .ref (T + 6)), (1, .int v1), (2, .int v2), (3, .int x9)]) [1, 2, 3, 0] rfl ?_
              exact W_58 () hf
            · refine e_icmp_ne (pc := 55) (tgt := 62) C dX3_readSum_55 (by decide) (fun _ => ?_) (fun q => absurd q c23)
              refine e_iconst (v := (0 : Int32)) (pc := 62) C dX3_readSum_62 (by decide) ?_
              refine e_lv (lv2 := [(0, .ref (T + 6)), (1, .int v1), (2, .int v2), (3, .int x9)]) [1, 2, 3, 0] rfl ?_
              exact W_63 (0 : Int32) hf
      · refine e_if_ne (pc := 22) (tgt := 113) C dX3_readSum_22 (by decide) (fun _ => ?_) (fun q => absurd q c4)
        refine e_lv (lv2 := [(0, .ref (T + 6)), (1, .int v1)]) [0, 1] rfl ?_
        exact hK_113 v1 w hf
set_option maxHeartbeats 4000000 in
set_option maxRecDepth 100000 in
theorem st_X3_readSum {G : GG} {l : Launch} {T : Nat} {h : AH} (hI : RI h T) {w : MS} {y : MS} (hf : s_X3_readSum G w = some y) : Ct G l yX3_readSum cX3_readSum 5 none 2 43 0 0 [.ref (T + 6)] (rh h T w) (none, rh h T y) := by
  refine ct_of (by decide) (Nat.le_of_ble_eq_true rfl) ?_
  intro p e s m args below meth c C hm hr hin
  have C : Cx G cX3_readSum RX3 p s m args meth c := C
  refine e_lv (lv2 := [(0, .ref (T + 6))]) [0] rfl ?_
  unfold s_X3_readSum at hf
  refine e_aload_n (pc := 0) C dX3_readSum_0 0 rfl rfl ?_
  obtain ⟨w1, y2, hf⟩ := ob_e hf
  refine e_callVv (pc := 1) (st := []) 3 C (st_X3_readValue hI y2) dX3_readSum_1 (by decide) (hI.1 _ rT6) g823 g825 g18 g149 g826 hd_X3_readValue rfl ⟨Nat.le_of_ble_eq_true rfl, Nat.le_of_ble_eq_true rfl⟩ ⟨Nat.le_of_ble_eq_true rfl, Nat.le_of_ble_eq_true rfl⟩ rfl (Nat.le_of_ble_eq_true rfl) ?_
  refine e_iconst (v := (0 : Int32)) (pc := 4) C dX3_readSum_4 (by decide) ?_
  refine e_istore_n (pc := 5) (lv2 := [(1, .int (0 : Int32)), (0, .ref (T + 6))]) C hm dX3_readSum_5 rfl (by decide) rfl ?_
  refine e_iconst (v := (0 : Int32)) (pc := 6) C dX3_readSum_6 (by decide) ?_
  refine e_istore_n (pc := 7) (lv2 := [(2, .int (0 : Int32)), (1, .int (0 : Int32)), (0, .ref (T + 6))]) C hm dX3_readSum_7 rfl (by decide) rfl ?_
  refine e_lv (lv2 := [(0, .ref (T + 6)), (1, .int (0 : Int32)), (2, .int (0 : Int32))]) [2, 1, 0] rfl ?_
  refine es_X3_readSum_8 hI C hm hr hin (fun v1_113 h_113 hf => ?_) bN (0 : Int32) (0 : Int32) w1 hf
  refine e_iload_n (pc := 113) C dX3_readSum_113 1 rfl rfl ?_
  rcases it_e hf with ⟨c24, hf⟩ | ⟨c24, hf⟩
  · refine e_if_eq (pc := 114) (tgt := 123) C dX3_readSum_114 (by decide) (fun _ => ?_) (fun q => absurd c24 q)
    obtain rfl := so_e hf
    exact e_vret (pc := 123) C hr dX3_readSum_123 (Nat.le_of_ble_eq_true rfl) (Nat.le_of_ble_eq_true rfl)
  · refine e_if_eq (pc := 114) (tgt := 123) C dX3_readSum_114 (by decide) (fun q => absurd q c24) (fun _ => ?_)
    refine e_aload_n (pc := 117) C dX3_readSum_117 0 rfl rfl ?_
    refine e_iload_n (pc := 118) C dX3_readSum_118 1 rfl rfl ?_
    refine e_ineg (pc := 119) C dX3_readSum_119 ?_
    obtain ⟨w25, y26, hf⟩ := ob_e hf
    refine e_callVv (pc := 120) (st := []) 3 C (st_X3_write hI y26) dX3_readSum_120 (by decide) (hI.1 _ rT6) g827 g829 g19 g149 g830 hd_X3_write rfl ⟨Nat.le_of_ble_eq_true rfl, Nat.le_of_ble_eq_true rfl⟩ ⟨Nat.le_of_ble_eq_true rfl, Nat.le_of_ble_eq_true rfl⟩ rfl (Nat.le_of_ble_eq_true rfl) ?_
    obtain rfl := so_e hf
    exact e_vret (pc := 123) C hr dX3_readSum_123 (Nat.le_of_ble_eq_true rfl) (Nat.le_of_ble_eq_true rfl)
theorem dX3_isJoint_0 : decode cX3_isJoint 0 = .ok (.iload_n 0, 1) := by decide +kernel
theorem dX3_isJoint_1 : decode cX3_isJoint 1 = .ok (.sipush 315, 3) := by decide +kernel
theorem dX3_isJoint_4 : decode cX3_isJoint 4 = .ok (.if_icmp .eq 10, 3) := by decide +kernel
theorem dX3_isJoint_7 : decode cX3_isJoint 7 = .ok (.iload_n 0, 1) := by decide +kernel
theorem dX3_isJoint_8 : decode cX3_isJoint 8 = .ok (.sipush 316, 3) := by decide +kernel
theorem dX3_isJoint_11 : decode cX3_isJoint 11 = .ok (.if_icmp .ne 7, 3) := by decide +kernel
theorem dX3_isJoint_14 : decode cX3_isJoint 14 = .ok (.iconst 1, 1) := by decide +kernel
theorem dX3_isJoint_15 : decode cX3_isJoint 15 = .ok (.goto 4, 3) := by decide +kernel
theorem dX3_isJoint_18 : decode cX3_isJoint 18 = .ok (.iconst 0, 1) := by decide +kernel
theorem dX3_isJoint_19 : decode cX3_isJoint 19 = .ok (.ireturn, 1) := by decide +kernel
def s_X3_isJoint (G : GG) (v0 : Int32) (w : MS) : Option (Int32 × MS) :=
if v0 = (315 : Int32) then (some ((1 : Int32), w)) else
if v0 = (316 : Int32) then (some ((1 : Int32), w)) else
some ((0 : Int32), w)
set_option maxHeartbeats 4000000 in
set_option maxRecDepth 100000 in
theorem st_X3_isJoint {G : GG} {l : Launch} {T : Nat} {h : AH} (hI : RI h T) {v0 : Int32} {w : MS} {y : Int32 × MS} (hf : s_X3_isJoint G v0 w = some y) : Ct G l yX3_isJoint cX3_isJoint 1 (some .boolean) 0 0 0 0 [.int v0] (rh h T w) (some (.int y.1), rh h T y.2) := by
  refine ct_of (by decide) (Nat.le_of_ble_eq_true rfl) ?_
  intro p e s m args below meth c C hm hr hin
  have C : Cx G cX3_isJoint RX3 p s m args meth c := C
  refine e_lv (lv2 := [(0, .int v0)]) [0] rfl ?_
  unfold s_X3_isJoint at hf
  refine e_iload_n (pc := 0) C dX3_isJoint_0 0 rfl rfl ?_
  refine e_sipush (v := (315 : Int32)) (pc := 1) C dX3_isJoint_1 (by decide) ?_
  rcases it_e hf with ⟨c1, hf⟩ | ⟨c1, hf⟩
  · refine e_icmp_eq (pc := 4) (tgt := 14) C dX3_isJoint_4 (by decide) (fun _ => ?_) (fun q => absurd c1 q)
    refine e_iconst (v := (1 : Int32)) (pc := 14) C dX3_isJoint_14 (by decide) ?_
    refine e_goto (pc := 15) (tgt := 19) C dX3_isJoint_15 (by decide) ?_
    obtain rfl := so_e hf
    exact e_zret (pc := 19) (v := (1 : Int32)) C hr (nz_ok (by decide)) dX3_isJoint_19 (Nat.le_of_ble_eq_true rfl) (Nat.le_of_ble_eq_true rfl)
  · refine e_icmp_eq (pc := 4) (tgt := 14) C dX3_isJoint_4 (by decide) (fun q => absurd q c1) (fun _ => ?_)
    refine e_iload_n (pc := 7) C dX3_isJoint_7 0 rfl rfl ?_
    refine e_sipush (v := (316 : Int32)) (pc := 8) C dX3_isJoint_8 (by decide) ?_
    rcases it_e hf with ⟨c2, hf⟩ | ⟨c2, hf⟩
    · refine e_icmp_ne (pc := 11) (tgt := 18) C dX3_isJoint_11 (by decide) (fun q => absurd c2 q) (fun _ => ?_)
      refine e_iconst (v := (1 : Int32)) (pc := 14) C dX3_isJoint_14 (by decide) ?_
      refine e_goto (pc := 15) (tgt := 19) C dX3_isJoint_15 (by decide) ?_
      obtain rfl := so_e hf
      exact e_zret (pc := 19) (v := (1 : Int32)) C hr (nz_ok (by decide)) dX3_isJoint_19 (Nat.le_of_ble_eq_true rfl) (Nat.le_of_ble_eq_true rfl)
    · refine e_icmp_ne (pc := 11) (tgt := 18) C dX3_isJoint_11 (by decide) (fun _ => ?_) (fun q => absurd q c2)
      refine e_iconst (v := (0 : Int32)) (pc := 18) C dX3_isJoint_18 (by decide) ?_
      obtain rfl := so_e hf
      exact e_zret (pc := 19) (v := (0 : Int32)) C hr (nz_ok (by decide)) dX3_isJoint_19 (Nat.le_of_ble_eq_true rfl) (Nat.le_of_ble_eq_true rfl)
theorem dX3_readComparison_0 : decode cX3_readComparison 0 = .ok (.aload_n 0, 1) := by decide +kernel
theorem dX3_readComparison_1 : decode cX3_readComparison 1 = .ok (.invokevirtual 41, 3) := by decide +kernel
theorem dX3_readComparison_4 : decode cX3_readComparison 4 = .ok (.aload_n 0, 1) := by decide +kernel
theorem dX3_readComparison_5 : decode cX3_readComparison 5 = .ok (.getfield 22, 3) := by decide +kernel
theorem dX3_readComparison_8 : decode cX3_readComparison 8 = .ok (.getfield 44, 3) := by decide +kernel
theorem dX3_readComparison_11 : decode cX3_readComparison 11 = .ok (.istore_n 1, 1) := by decide +kernel
theorem dX3_readComparison_12 : decode cX3_readComparison 12 = .ok (.aload_n 0, 1) := by decide +kernel
theorem dX3_readComparison_13 : decode cX3_readComparison 13 = .ok (.dup, 1) := by decide +kernel
theorem dX3_readComparison_14 : decode cX3_readComparison 14 = .ok (.getfield 19, 3) := by decide +kernel
theorem dX3_readComparison_17 : decode cX3_readComparison 17 = .ok (.iconst 1, 1) := by decide +kernel
theorem dX3_readComparison_18 : decode cX3_readComparison 18 = .ok (.iadd, 1) := by decide +kernel
theorem dX3_readComparison_19 : decode cX3_readComparison 19 = .ok (.putfield 19, 3) := by decide +kernel
theorem dX3_readComparison_22 : decode cX3_readComparison 22 = .ok (.iload_n 1, 1) := by decide +kernel
theorem dX3_readComparison_23 : decode cX3_readComparison 23 = .ok (.bipush 60, 2) := by decide +kernel
theorem dX3_readComparison_25 : decode cX3_readComparison 25 = .ok (.if_icmp .eq 40, 3) := by decide +kernel
theorem dX3_readComparison_28 : decode cX3_readComparison 28 = .ok (.iload_n 1, 1) := by decide +kernel
theorem dX3_readComparison_29 : decode cX3_readComparison 29 = .ok (.sipush 259, 3) := by decide +kernel
theorem dX3_readComparison_32 : decode cX3_readComparison 32 = .ok (.if_icmp .eq 33, 3) := by decide +kernel
theorem dX3_readComparison_35 : decode cX3_readComparison 35 = .ok (.iload_n 1, 1) := by decide +kernel
theorem dX3_readComparison_36 : decode cX3_readComparison 36 = .ok (.bipush 61, 2) := by decide +kernel
theorem dX3_readComparison_38 : decode cX3_readComparison 38 = .ok (.if_icmp .eq 27, 3) := by decide +kernel
theorem dX3_readComparison_41 : decode cX3_readComparison 41 = .ok (.iload_n 1, 1) := by decide +kernel
theorem dX3_readComparison_42 : decode cX3_readComparison 42 = .ok (.sipush 260, 3) := by decide +kernel
theorem dX3_readComparison_45 : decode cX3_readComparison 45 = .ok (.if_icmp .eq 20, 3) := by decide +kernel
theorem dX3_readComparison_48 : decode cX3_readComparison 48 = .ok (.iload_n 1, 1) := by decide +kernel
theorem dX3_readComparison_49 : decode cX3_readComparison 49 = .ok (.bipush 62, 2) := by decide +kernel
theorem dX3_readComparison_51 : decode cX3_readComparison 51 = .ok (.if_icmp .eq 14, 3) := by decide +kernel
theorem dX3_readComparison_54 : decode cX3_readComparison 54 = .ok (.aload_n 0, 1) := by decide +kernel
theorem dX3_readComparison_55 : decode cX3_readComparison 55 = .ok (.getfield 22, 3) := by decide +kernel
theorem dX3_readComparison_58 : decode cX3_readComparison 58 = .ok (.iconst 0, 1) := by decide +kernel
theorem dX3_readComparison_59 : decode cX3_readComparison 59 = .ok (.invokevirtual 70, 3) := by decide +kernel
theorem dX3_readComparison_62 : decode cX3_readComparison 62 = .ok (.goto 20, 3) := by decide +kernel
theorem dX3_readComparison_65 : decode cX3_readComparison 65 = .ok (.aload_n 0, 1) := by decide +kernel
theorem dX3_readComparison_66 : decode cX3_readComparison 66 = .ok (.getfield 19, 3) := by decide +kernel
theorem dX3_readComparison_69 : decode cX3_readComparison 69 = .ok (.bipush 60, 2) := by decide +kernel
theorem dX3_readComparison_71 : decode cX3_readComparison 71 = .ok (.if_icmp .le 11, 3) := by decide +kernel
theorem dX3_readComparison_74 : decode cX3_readComparison 74 = .ok (.aload_n 0, 1) := by decide +kernel
theorem dX3_readComparison_75 : decode cX3_readComparison 75 = .ok (.getfield 22, 3) := by decide +kernel
theorem dX3_readComparison_78 : decode cX3_readComparison 78 = .ok (.iconst 3, 1) := by decide +kernel
theorem dX3_readComparison_79 : decode cX3_readComparison 79 = .ok (.invokevirtual 70, 3) := by decide +kernel
theorem dX3_readComparison_82 : decode cX3_readComparison 82 = .ok (.aload_n 0, 1) := by decide +kernel
theorem dX3_readComparison_83 : decode cX3_readComparison 83 = .ok (.getfield 22, 3) := by decide +kernel
theorem dX3_readComparison_86 : decode cX3_readComparison 86 = .ok (.getfield 34, 3) := by decide +kernel
theorem dX3_readComparison_89 : decode cX3_readComparison 89 = .ok (.ifCond .ne 20, 3) := by decide +kernel
theorem dX3_readComparison_92 : decode cX3_readComparison 92 = .ok (.aload_n 0, 1) := by decide +kernel
theorem dX3_readComparison_93 : decode cX3_readComparison 93 = .ok (.getfield 22, 3) := by decide +kernel
theorem dX3_readComparison_96 : decode cX3_readComparison 96 = .ok (.invokevirtual 47, 3) := by decide +kernel
theorem dX3_readComparison_99 : decode cX3_readComparison 99 = .ok (.aload_n 0, 1) := by decide +kernel
theorem dX3_readComparison_100 : decode cX3_readComparison 100 = .ok (.invokevirtual 41, 3) := by decide +kernel
theorem dX3_readComparison_103 : decode cX3_readComparison 103 = .ok (.aload_n 0, 1) := by decide +kernel
theorem dX3_readComparison_104 : decode cX3_readComparison 104 = .ok (.iload_n 1, 1) := by decide +kernel
theorem dX3_readComparison_105 : decode cX3_readComparison 105 = .ok (.ineg, 1) := by decide +kernel
theorem dX3_readComparison_106 : decode cX3_readComparison 106 = .ok (.invokevirtual 53, 3) := by decide +kernel
theorem dX3_readComparison_109 : decode cX3_readComparison 109 = .ok (.return_, 1) := by decide +kernel
def s_X3_readComparison (G : GG) (w : MS) : Option (MS) :=
ob (s_X3_readSum G w) fun w1 =>
nn (w1.1 0 7) fun x3 =>
nn (w_si w1 6 3 ((w1.1 6 3) + (1 : Int32))) fun w4 =>
nn (fun (h_82 : MS) => (if (h_82.1 0 9) = 0 then (ob (s_X8_advance G h_82) fun w6 =>
ob (s_X3_readSum G w6) fun w8 =>
ob (s_X3_write G (-x3) w8) fun w10 =>
some w10) else
some h_82)) fun j_82 =>
nn (fun (uu_65 : Unit) => (if (w4.1 6 3) ≤ (60 : Int32) then (j_82 w4) else
ob (s_X8_fail G (3 : Int32) w4) fun w13 =>
j_82 w13)) fun j_65 =>
if x3 = (60 : Int32) then (j_65 ()) else
if x3 = (259 : Int32) then (j_65 ()) else
if x3 = (61 : Int32) then (j_65 ()) else
if x3 = (260 : Int32) then (j_65 ()) else
if x3 = (62 : Int32) then (j_65 ()) else
ob (s_X8_fail G (0 : Int32) w4) fun w20 =>
j_82 w20
set_option maxHeartbeats 4000000 in
set_option maxRecDepth 100000 in
theorem st_X3_readComparison {G : GG} {l : Launch} {T : Nat} {h : AH} (hI : RI h T) {w : MS} {y : MS} (hf : s_X3_readComparison G w = some y) : Ct G l yX3_readComparison cX3_readComparison 2 none 3 67 0 0 [.ref (T + 6)] (rh h T w) (none, rh h T y) := by
  refine ct_of (by decide) (Nat.le_of_ble_eq_true rfl) ?_
  intro p e s m args below meth c C hm hr hin
  have C : Cx G cX3_readComparison RX3 p s m args meth c := C
  refine e_lv (lv2 := [(0, .ref (T + 6))]) [0] rfl ?_
  unfold s_X3_readComparison at hf
  refine e_aload_n (pc := 0) C dX3_readComparison_0 0 rfl rfl ?_
  obtain ⟨w1, y2, hf⟩ := ob_e hf
  refine e_callVv (pc := 1) (st := []) 3 C (st_X3_readSum hI y2) dX3_readComparison_1 (by decide) (hI.1 _ rT6) g819 g821 g17 g149 g822 hd_X3_readSum rfl ⟨Nat.le_of_ble_eq_true rfl, Nat.le_of_ble_eq_true rfl⟩ ⟨Nat.le_of_ble_eq_true rfl, Nat.le_of_ble_eq_true rfl⟩ rfl (Nat.le_of_ble_eq_true rfl) ?_
  refine e_aload_n (pc := 4) C dX3_readComparison_4 0 rfl rfl ?_
  refine r_getr (pc := 5) 6 3 0 0 hI C dX3_readComparison_5 (by decide) (by decide) g240 rfl rT6 (by decide) ?_
  refine r_getiN (pc := 8) 0 8 7 hI C dX3_readComparison_8 (by decide) (by decide) g191 rfl rT0 (by decide) ?_
  obtain ⟨x3, ex3, hf⟩ := nn_e hf
  refine e_topi ex3 ?_
  refine e_istore_n (pc := 11) (lv2 := [(1, .int x3), (0, .ref (T + 6))]) C hm dX3_readComparison_11 rfl (by decide) rfl ?_
  refine e_aload_n (pc := 12) C dX3_readComparison_12 1 rfl rfl ?_
  refine e_dup (pc := 13) C dX3_readComparison_13 rfl ?_
  refine r_geti (pc := 14) 6 3 3 hI C dX3_readComparison_14 (by decide) (by decide) g243 rfl rT6 (by decide) ?_
  refine e_iconst (v := (1 : Int32)) (pc := 17) C dX3_readComparison_17 (by decide) ?_
  refine e_iadd (pc := 18) C dX3_readComparison_18 ?_
  refine r_puti (pc := 19) 6 3 3 hI C dX3_readComparison_19 (by decide) (by decide) g243 rfl rfl rfl rfl rT6 (by decide) ?_
  obtain ⟨w4, ew4, hf⟩ := nn_e hf
  refine r_hp ew4 ?_
  refine e_iload_n (pc := 22) C dX3_readComparison_22 0 rfl rfl ?_
  refine e_bipush (v := (60 : Int32)) (pc := 23) C dX3_readComparison_23 (by decide) ?_
  obtain ⟨j_82, ej_82, hf⟩ := nn_e hf
  have W_82 : ∀ (h_82 : MS), j_82 h_82 = some y → EE G p l e ({ frames := 3, cells := 0, slots := 0, locals := 67 } : Room) s m args below meth c (none, rh h T y) 0 0 82 [(0, .ref (T + 6)), (1, .int x3)] [] (rh h T h_82) 0 0 := by
    intro h_82 hf
    rw [ej_82] at hf
    refine e_aload_n (pc := 82) C dX3_readComparison_82 0 rfl rfl ?_
    refine r_getr (pc := 83) 6 3 0 0 hI C dX3_readComparison_83 (by decide) (by decide) g240 rfl rT6 (by decide) ?_
    refine r_getiN (pc := 86) 0 8 9 hI C dX3_readComparison_86 (by decide) (by decide) g195 rfl rT0 (by decide) ?_
    rcases it_e hf with ⟨c5, hf⟩ | ⟨c5, hf⟩
    · refine e_if_ne (pc := 89) (tgt := 109) C dX3_readComparison_89 (by decide) (fun q => absurd c5 q) (fun _ => ?_)
      refine e_aload_n (pc := 92) C dX3_readComparison_92 0 rfl rfl ?_
      refine r_getr (pc := 93) 6 3 0 0 hI C dX3_readComparison_93 (by decide) (by decide) g240 rfl rT6 (by decide) ?_
      obtain ⟨w6, y7, hf⟩ := ob_e hf
      refine e_callVv (pc := 96) (st := []) 8 C (st_X8_advance hI y7) dX3_readComparison_96 (by decide) (hI.1 _ rT0) g818 g715 g716 g147 g717 hd_X8_advance rfl ⟨Nat.le_of_ble_eq_true rfl, Nat.le_of_ble_eq_true rfl⟩ ⟨Nat.le_of_ble_eq_true rfl, Nat.le_of_ble_eq_true rfl⟩ rfl (Nat.le_of_ble_eq_true rfl) ?_
      refine e_aload_n (pc := 99) C dX3_readComparison_99 0 rfl rfl ?_
      obtain ⟨w8, y9, hf⟩ := ob_e hf
      refine e_callVv (pc := 100) (st := []) 3 C (st_X3_readSum hI y9) dX3_readComparison_100 (by decide) (hI.1 _ rT6) g819 g821 g17 g149 g822 hd_X3_readSum rfl ⟨Nat.le_of_ble_eq_true rfl, Nat.le_of_ble_eq_true rfl⟩ ⟨Nat.le_of_ble_eq_true rfl, Nat.le_of_ble_eq_true rfl⟩ rfl (Nat.le_of_ble_eq_true rfl) ?_
      refine e_aload_n (pc := 103) C dX3_readComparison_103 0 rfl rfl ?_
      refine e_iload_n (pc := 104) C dX3_readComparison_104 1 rfl rfl ?_
      refine e_ineg (pc := 105) C dX3_readComparison_105 ?_
      obtain ⟨w10, y11, hf⟩ := ob_e hf
      refine e_callVv (pc := 106) (st := []) 3 C (st_X3_write hI y11) dX3_readComparison_106 (by decide) (hI.1 _ rT6) g827 g829 g19 g149 g830 hd_X3_write rfl ⟨Nat.le_of_ble_eq_true rfl, Nat.le_of_ble_eq_true rfl⟩ ⟨Nat.le_of_ble_eq_true rfl, Nat.le_of_ble_eq_true rfl⟩ rfl (Nat.le_of_ble_eq_true rfl) ?_
      obtain rfl := so_e hf
      exact e_vret (pc := 109) C hr dX3_readComparison_109 (Nat.le_of_ble_eq_true rfl) (Nat.le_of_ble_eq_true rfl)
    · refine e_if_ne (pc := 89) (tgt := 109) C dX3_readComparison_89 (by decide) (fun _ => ?_) (fun q => absurd q c5)
      obtain rfl := so_e hf
      exact e_vret (pc := 109) C hr dX3_readComparison_109 (Nat.le_of_ble_eq_true rfl) (Nat.le_of_ble_eq_true rfl)
  obtain ⟨j_65, ej_65, hf⟩ := nn_e hf
  have W_65 : ∀ (uu_65 : Unit), j_65 uu_65 = some y → EE G p l e ({ frames := 3, cells := 0, slots := 0, locals := 67 } : Room) s m args below meth c (none, rh h T y) 0 0 65 [(0, .ref (T + 6)), (1, .int x3)] [] (rh h T w4) 0 0 := by
    intro uu_65 hf
    rw [ej_65] at hf
    refine e_aload_n (pc := 65) C dX3_readComparison_65 0 rfl rfl ?_
    refine r_geti (pc := 66) 6 3 3 hI C dX3_readComparison_66 (by decide) (by decide) g243 rfl rT6 (by decide) ?_
    refine e_bipush (v := (60 : Int32)) (pc := 69) C dX3_readComparison_69 (by decide) ?_
    rcases it_e hf with ⟨c12, hf⟩ | ⟨c12, hf⟩
    · refine e_icmp_le (pc := 71) (tgt := 82) C dX3_readComparison_71 (by decide) (fun _ => ?_) (fun q => absurd c12 q)
      exact W_82 w4 hf
    · refine e_icmp_le (pc := 71) (tgt := 82) C dX3_readComparison_71 (by decide) (fun q => absurd q c12) (fun _ => ?_)
      refine e_aload_n (pc := 74) C dX3_readComparison_74 0 rfl rfl ?_
      refine r_getr (pc := 75) 6 3 0 0 hI C dX3_readComparison_75 (by decide) (by decide) g240 rfl rT6 (by decide) ?_
      refine e_iconst (v := (3 : Int32)) (pc := 78) C dX3_readComparison_78 (by decide) ?_
      obtain ⟨w13, y14, hf⟩ := ob_e hf
      refine e_callVv (pc := 79) (st := []) 8 C (st_X8_fail hI y14) dX3_readComparison_79 (by decide) (hI.1 _ rT0) g817 g723 g724 g147 g725 hd_X8_fail rfl ⟨Nat.le_of_ble_eq_true rfl, Nat.le_of_ble_eq_true rfl⟩ ⟨Nat.le_of_ble_eq_true rfl, Nat.le_of_ble_eq_true rfl⟩ rfl (Nat.le_of_ble_eq_true rfl) ?_
      exact W_82 w13 hf
  rcases it_e hf with ⟨c15, hf⟩ | ⟨c15, hf⟩
  · refine e_icmp_eq (pc := 25) (tgt := 65) C dX3_readComparison_25 (by decide) (fun _ => ?_) (fun q => absurd c15 q)
    refine e_lv (lv2 := [(0, .ref (T + 6)), (1, .int x3)]) [1, 0] rfl ?_
    exact W_65 () hf
  · refine e_icmp_eq (pc := 25) (tgt := 65) C dX3_readComparison_25 (by decide) (fun q => absurd q c15) (fun _ => ?_)
    refine e_iload_n (pc := 28) C dX3_readComparison_28 0 rfl rfl ?_
    refine e_sipush (v := (259 : Int32)) (pc := 29) C dX3_readComparison_29 (by decide) ?_
    rcases it_e hf with ⟨c16, hf⟩ | ⟨c16, hf⟩
    · refine e_icmp_eq (pc := 32) (tgt := 65) C dX3_readComparison_32 (by decide) (fun _ => ?_) (fun q => absurd c16 q)
      refine e_lv (lv2 := [(0, .ref (T + 6)), (1, .int x3)]) [1, 0] rfl ?_
      exact W_65 () hf
    · refine e_icmp_eq (pc := 32) (tgt := 65) C dX3_readComparison_32 (by decide) (fun q => absurd q c16) (fun _ => ?_)
      refine e_iload_n (pc := 35) C dX3_readComparison_35 0 rfl rfl ?_
      refine e_bipush (v := (61 : Int32)) (pc := 36) C dX3_readComparison_36 (by decide) ?_
      rcases it_e hf with ⟨c17, hf⟩ | ⟨c17, hf⟩
      · refine e_icmp_eq (pc := 38) (tgt := 65) C dX3_readComparison_38 (by decide) (fun _ => ?_) (fun q => absurd c17 q)
        refine e_lv (lv2 := [(0, .ref (T + 6)), (1, .int x3)]) [1, 0] rfl ?_
        exact W_65 () hf
      · refine e_icmp_eq (pc := 38) (tgt := 65) C dX3_readComparison_38 (by decide) (fun q => absurd q c17) (fun _ => ?_)
        refine e_iload_n (pc := 41) C dX3_readComparison_41 0 rfl rfl ?_
        refine e_sipush (v := (260 : Int32)) (pc := 42) C dX3_readComparison_42 (by decide) ?_
        rcases it_e hf with ⟨c18, hf⟩ | ⟨c18, hf⟩
        · refine e_icmp_eq (pc := 45) (tgt := 65) C dX3_readComparison_45 (by decide) (fun _ => ?_) (fun q => absurd c18 q)
          refine e_lv (lv2 := [(0, .ref (T + 6)), (1, .int x3)]) [1, 0] rfl ?_
          exact W_65 () hf
        · refine e_icmp_eq (pc := 45) (tgt := 65) C dX3_readComparison_45 (by decide) (fun q => absurd q c18) (fun _ => ?_)
          refine e_iload_n (pc := 48) C dX3_readComparison_48 0 rfl rfl ?_
          refine e_bipush (v := (62 : Int32)) (pc := 49) C dX3_readComparison_49 (by decide) ?_
          rcases it_e hf with ⟨c19, hf⟩ | ⟨c19, hf⟩
          · refine e_icmp_eq (pc := 51) (tgt := 65) C dX3_readComparison_51 (by decide) (fun _ => ?_) (fun q => absurd c19 q)
            refine e_lv (lv2 := [(0, .ref (T + 6)), (1, .int x3)]) [1, 0] rfl ?_
            exact W_65 () hf
          · refine e_icmp_eq (pc := 51) (tgt := 65) C dX3_readComparison_51 (by decide) (fun q => absurd q c19) (fun _ => ?_)
            refine e_aload_n (pc := 54) C dX3_readComparison_54 1 rfl rfl ?_
            refine r_getr (pc := 55) 6 3 0 0 hI C dX3_readComparison_55 (by decide) (by decide) g240 rfl rT6 (by decide) ?_
            refine e_iconst (v := (0 : Int32)) (pc := 58) C dX3_readComparison_58 (by decide) ?_
            obtain ⟨w20, y21, hf⟩ := ob_e hf
            refine e_callVv (pc := 59) (st := []) 8 C (st_X8_fail hI y21) dX3_readComparison_59 (by decide) (hI.1 _ rT0) g817 g723 g724 g147 g725 hd_X8_fail rfl ⟨Nat.le_of_ble_eq_true rfl, Nat.le_of_ble_eq_true rfl⟩ ⟨Nat.le_of_ble_eq_true rfl, Nat.le_of_ble_eq_true rfl⟩ rfl (Nat.le_of_ble_eq_true rfl) ?_
            refine e_goto (pc := 62) (tgt := 82) C dX3_readComparison_62 (by decide) ?_
            refine e_lv (lv2 := [(0, .ref (T + 6)), (1, .int x3)]) [1, 0] rfl ?_
            exact W_82 w20 hf
theorem dX3_readTest_0 : decode cX3_readTest 0 = .ok (.aload_n 0, 1) := by decide +kernel
theorem dX3_readTest_1 : decode cX3_readTest 1 = .ok (.iload_n 1, 1) := by decide +kernel
theorem dX3_readTest_2 : decode cX3_readTest 2 = .ok (.invokevirtual 73, 3) := by decide +kernel
theorem dX3_readTest_5 : decode cX3_readTest 5 = .ok (.iconst 0, 1) := by decide +kernel
theorem dX3_readTest_6 : decode cX3_readTest 6 = .ok (.istore_n 2, 1) := by decide +kernel
theorem dX3_readTest_7 : decode cX3_readTest 7 = .ok (.iconst 0, 1) := by decide +kernel
theorem dX3_readTest_8 : decode cX3_readTest 8 = .ok (.istore_n 3, 1) := by decide +kernel
theorem dX3_readTest_9 : decode cX3_readTest 9 = .ok (.iload_n 3, 1) := by decide +kernel
theorem dX3_readTest_10 : decode cX3_readTest 10 = .ok (.sipush 400, 3) := by decide +kernel
theorem dX3_readTest_13 : decode cX3_readTest 13 = .ok (.if_icmp .ge 107, 3) := by decide +kernel
theorem dX3_readTest_16 : decode cX3_readTest 16 = .ok (.aload_n 0, 1) := by decide +kernel
theorem dX3_readTest_17 : decode cX3_readTest 17 = .ok (.getfield 22, 3) := by decide +kernel
theorem dX3_readTest_20 : decode cX3_readTest 20 = .ok (.getfield 34, 3) := by decide +kernel
theorem dX3_readTest_23 : decode cX3_readTest 23 = .ok (.ifCond .ne 97, 3) := by decide +kernel
theorem dX3_readTest_26 : decode cX3_readTest 26 = .ok (.aload_n 0, 1) := by decide +kernel
theorem dX3_readTest_27 : decode cX3_readTest 27 = .ok (.getfield 22, 3) := by decide +kernel
theorem dX3_readTest_30 : decode cX3_readTest 30 = .ok (.getfield 44, 3) := by decide +kernel
theorem dX3_readTest_33 : decode cX3_readTest 33 = .ok (.invokestatic 76, 3) := by decide +kernel
theorem dX3_readTest_36 : decode cX3_readTest 36 = .ok (.ifCond .eq 84, 3) := by decide +kernel
theorem dX3_readTest_39 : decode cX3_readTest 39 = .ok (.aload_n 0, 1) := by decide +kernel
theorem dX3_readTest_40 : decode cX3_readTest 40 = .ok (.getfield 22, 3) := by decide +kernel
theorem dX3_readTest_43 : decode cX3_readTest 43 = .ok (.getfield 44, 3) := by decide +kernel
theorem dX3_readTest_46 : decode cX3_readTest 46 = .ok (.sipush 315, 3) := by decide +kernel
theorem dX3_readTest_49 : decode cX3_readTest 49 = .ok (.if_icmp .ne 7, 3) := by decide +kernel
theorem dX3_readTest_52 : decode cX3_readTest 52 = .ok (.iconst 1, 1) := by decide +kernel
theorem dX3_readTest_53 : decode cX3_readTest 53 = .ok (.goto 4, 3) := by decide +kernel
theorem dX3_readTest_56 : decode cX3_readTest 56 = .ok (.iconst 0, 1) := by decide +kernel
theorem dX3_readTest_57 : decode cX3_readTest 57 = .ok (.istore 4, 2) := by decide +kernel
theorem dX3_readTest_59 : decode cX3_readTest 59 = .ok (.iload 4, 2) := by decide +kernel
theorem dX3_readTest_61 : decode cX3_readTest 61 = .ok (.ifCond .eq 14, 3) := by decide +kernel
theorem dX3_readTest_64 : decode cX3_readTest 64 = .ok (.iload_n 2, 1) := by decide +kernel
theorem dX3_readTest_65 : decode cX3_readTest 65 = .ok (.ifCond .eq 10, 3) := by decide +kernel
theorem dX3_readTest_68 : decode cX3_readTest 68 = .ok (.aload_n 0, 1) := by decide +kernel
theorem dX3_readTest_69 : decode cX3_readTest 69 = .ok (.sipush (-315), 3) := by decide +kernel
theorem dX3_readTest_72 : decode cX3_readTest 72 = .ok (.invokevirtual 53, 3) := by decide +kernel
theorem dX3_readTest_75 : decode cX3_readTest 75 = .ok (.iload_n 2, 1) := by decide +kernel
theorem dX3_readTest_76 : decode cX3_readTest 76 = .ok (.ifCond .ne 8, 3) := by decide +kernel
theorem dX3_readTest_79 : decode cX3_readTest 79 = .ok (.iload 4, 2) := by decide +kernel
theorem dX3_readTest_81 : decode cX3_readTest 81 = .ok (.ifCond .eq 7, 3) := by decide +kernel
theorem dX3_readTest_84 : decode cX3_readTest 84 = .ok (.iconst 1, 1) := by decide +kernel
theorem dX3_readTest_85 : decode cX3_readTest 85 = .ok (.goto 4, 3) := by decide +kernel
theorem dX3_readTest_88 : decode cX3_readTest 88 = .ok (.iconst 0, 1) := by decide +kernel
theorem dX3_readTest_89 : decode cX3_readTest 89 = .ok (.istore_n 2, 1) := by decide +kernel
theorem dX3_readTest_90 : decode cX3_readTest 90 = .ok (.aload_n 0, 1) := by decide +kernel
theorem dX3_readTest_91 : decode cX3_readTest 91 = .ok (.getfield 22, 3) := by decide +kernel
theorem dX3_readTest_94 : decode cX3_readTest 94 = .ok (.invokevirtual 47, 3) := by decide +kernel
theorem dX3_readTest_97 : decode cX3_readTest 97 = .ok (.aload_n 0, 1) := by decide +kernel
theorem dX3_readTest_98 : decode cX3_readTest 98 = .ok (.iload_n 1, 1) := by decide +kernel
theorem dX3_readTest_99 : decode cX3_readTest 99 = .ok (.invokevirtual 73, 3) := by decide +kernel
theorem dX3_readTest_102 : decode cX3_readTest 102 = .ok (.iload 4, 2) := by decide +kernel
theorem dX3_readTest_104 : decode cX3_readTest 104 = .ok (.ifCond .ne 10, 3) := by decide +kernel
theorem dX3_readTest_107 : decode cX3_readTest 107 = .ok (.aload_n 0, 1) := by decide +kernel
theorem dX3_readTest_108 : decode cX3_readTest 108 = .ok (.sipush (-316), 3) := by decide +kernel
theorem dX3_readTest_111 : decode cX3_readTest 111 = .ok (.invokevirtual 53, 3) := by decide +kernel
theorem dX3_readTest_114 : decode cX3_readTest 114 = .ok (.iinc 3 1, 3) := by decide +kernel
theorem dX3_readTest_117 : decode cX3_readTest 117 = .ok (.goto (-108), 3) := by decide +kernel
theorem dX3_readTest_120 : decode cX3_readTest 120 = .ok (.iload_n 2, 1) := by decide +kernel
theorem dX3_readTest_121 : decode cX3_readTest 121 = .ok (.ifCond .eq 10, 3) := by decide +kernel
theorem dX3_readTest_124 : decode cX3_readTest 124 = .ok (.aload_n 0, 1) := by decide +kernel
theorem dX3_readTest_125 : decode cX3_readTest 125 = .ok (.sipush (-315), 3) := by decide +kernel
theorem dX3_readTest_128 : decode cX3_readTest 128 = .ok (.invokevirtual 53, 3) := by decide +kernel
theorem dX3_readTest_131 : decode cX3_readTest 131 = .ok (.return_, 1) := by decide +kernel
def S_X3_readTest_9 (G : GG) (rf : Int32 → MS → Option MS) (v1 : Int32) (K_120 : Int32 → MS → Option (MS)) (self_9 : Int32 → Int32 → MS → Option (MS)) (v2 : Int32) (v3 : Int32) (w : MS) : Option (MS) :=
if (400 : Int32) ≤ v3 then (K_120 v2 w) else
if (w.1 0 9) = 0 then (cw (s_X3_isJoint G (w.1 0 7) w) fun r7 w5 =>
if r7 = 0 then (K_120 v2 w5) else
nn (fun (s0_57 : Int32) => (nn (fun (h_75 : MS) => (nn (fun (s0_89 : Int32) => (ob (s_X8_advance G h_75) fun w9 =>
ob (rf v1 w9) fun w11 =>
nn (fun (h_114 : MS) => (nn (v3 + (1 : Int32)) fun x13 =>
self_9 s0_89 x13 h_114)) fun j_114 =>
if s0_57 = 0 then (ob (s_X3_write G (-316 : Int32) w11) fun w15 =>
j_114 w15) else
j_114 w11)) fun j_89 =>
nn (fun (uu_84 : Unit) => (j_89 (1 : Int32))) fun j_84 =>
if v2 = 0 then (if s0_57 = 0 then (j_89 (0 : Int32)) else
j_84 ()) else
j_84 ())) fun j_75 =>
if s0_57 = 0 then (j_75 w5) else
if v2 = 0 then (j_75 w5) else
ob (s_X3_write G (-315 : Int32) w5) fun w21 =>
j_75 w21)) fun j_57 =>
if (w5.1 0 7) = (315 : Int32) then (j_57 (1 : Int32)) else
j_57 (0 : Int32)) else
K_120 v2 w
def s_X3_readTest (G : GG) (rf : Int32 → MS → Option MS) (v1 : Int32) (w : MS) : Option (MS) :=
ob (rf v1 w) fun w1 =>
lw2 (S_X3_readTest_9 G rf v1 (fun (v2_120 : Int32) (h_120 : MS) => (if v2_120 = 0 then (some h_120) else
ob (s_X3_write G (-315 : Int32) h_120) fun w25 =>
some w25))) bN (0 : Int32) (0 : Int32) w1
set_option maxHeartbeats 4000000 in
set_option maxRecDepth 100000 in
theorem es_X3_readTest_9 {G : GG} {p : Program} {l : Launch} {e : Env} {s : State} {m : MethodId} {args : Array Value} {below : List Frame} {meth : Method} {c : Code} {y : MS} {T : Nat} {h : AH} (hI : RI h T) {k : Nat} {rf : Int32 → MS → Option MS} (hrf : ∀ {v1 : Int32} {w y : MS}, rf v1 w = some y → Ct G l yX3_readFact cX3_readFact 3 none (4 + 2 * k) (88 + 100 * k) 0 0 [.ref (T + 6), .int v1] (rh h T w) (none, rh h T y)) (C : Cx G cX3_readTest RX3 p s m args meth c) (hm : c.maxLocals = 5) (hr : meth.sig.returnType = none) (hin : meth.name = yX3_readTest.name) {v1 : Int32} {K_120 : Int32 → MS → Option (MS)} (hK_120 : ∀ (u2 : Int32) (w : MS), K_120 u2 w = some y → EE G p l e ({ frames := (4 + 2 * k + 1), cells := 0, slots := 0, locals := (88 + 100 * k + 50) } : Room) s m args below meth c (none, rh h T y) 0 0 120 [(0, .ref (T + 6)), (2, .int u2)] [] (rh h T w) 0 0) :
    ∀ (n : Nat) (v2 : Int32) (v3 : Int32) (w : MS), lw2 (S_X3_readTest_9 G rf v1 K_120) n v2 v3 w = some y → EE G p l e ({ frames := (4 + 2 * k + 1), cells := 0, slots := 0, locals := (88 + 100 * k + 50) } : Room) s m args below meth c (none, rh h T y) 0 0 9 [(0, .ref (T + 6)), (1, .int v1), (2, .int v2), (3, .int v3)] [] (rh h T w) 0 0 := by
  intro n
  induction n with
  | zero => intro v2 v3 w hf; exact (no_e hf).elim
  | succ n ih_9 =>
    intro v2 v3 w hf
    have hf : S_X3_readTest_9 G rf v1 K_120 (lw2 (S_X3_readTest_9 G rf v1 K_120) n) v2 v3 w = some y := hf
    generalize lw2 (S_X3_readTest_9 G rf v1 K_120) n = self_9 at hf ih_9
    unfold S_X3_readTest_9 at hf
    refine e_iload_n (pc := 9) C dX3_readTest_9 3 rfl rfl ?_
    refine e_sipush (v := (400 : Int32)) (pc := 10) C dX3_readTest_10 (by decide) ?_
    rcases it_e hf with ⟨c3, hf⟩ | ⟨c3, hf⟩
    · refine e_icmp_ge (pc := 13) (tgt := 120) C dX3_readTest_13 (by decide) (fun _ => ?_) (fun q => absurd c3 q)
      refine e_lv (lv2 := [(0, .ref (T + 6)), (2, .int v2)]) [0, 2] rfl ?_
      exact hK_120 v2 w hf
    · refine e_icmp_ge (pc := 13) (tgt := 120) C dX3_readTest_13 (by decide) (fun q => absurd q c3) (fun _ => ?_)
      refine e_aload_n (pc := 16) C dX3_readTest_16 0 rfl rfl ?_
      refine r_getr (pc := 17) 6 3 0 0 hI C dX3_readTest_17 (by decide) (by decide) g240 rfl rT6 (by decide) ?_
      refine r_getiN (pc := 20) 0 8 9 hI C dX3_readTest_20 (by decide) (by decide) g195 rfl rT0 (by decide) ?_
      rcases it_e hf with ⟨c4, hf⟩ | ⟨c4, hf⟩
      · refine e_if_ne (pc := 23) (tgt := 120) C dX3_readTest_23 (by decide) (fun q => absurd c4 q) (fun _ => ?_)
        refine e_aload_n (pc := 26) C dX3_readTest_26 0 rfl rfl ?_
        refine r_getr (pc := 27) 6 3 0 0 hI C dX3_readTest_27 (by decide) (by decide) g240 rfl rT6 (by decide) ?_
        refine r_getiN (pc := 30) 0 8 7 hI C dX3_readTest_30 (by decide) (by decide) g191 rfl rT0 (by decide) ?_
        obtain ⟨r7, w5, y6, hf⟩ := cw_e hf
        refine e_callSi (pc := 33) (st := []) C (st_X3_isJoint hI y6) dX3_readTest_33 g847 g848 g149 g849 hd_X3_isJoint rfl ⟨by dsimp only; omega, by dsimp only; omega⟩ ⟨Nat.le_of_ble_eq_true rfl, Nat.le_of_ble_eq_true rfl⟩ rfl (Nat.le_of_ble_eq_true rfl) ?_
        rcases it_e hf with ⟨c8, hf⟩ | ⟨c8, hf⟩
        · refine e_if_eq (pc := 36) (tgt := 120) C dX3_readTest_36 (by decide) (fun _ => ?_) (fun q => absurd c8 q)
          refine e_lv (lv2 := [(0, .ref (T + 6)), (2, .int v2)]) [0, 2] rfl ?_
          exact hK_120 v2 w5 hf
        · refine e_if_eq (pc := 36) (tgt := 120) C dX3_readTest_36 (by decide) (fun q => absurd q c8) (fun _ => ?_)
          refine e_aload_n (pc := 39) C dX3_readTest_39 0 rfl rfl ?_
          refine r_getr (pc := 40) 6 3 0 0 hI C dX3_readTest_40 (by decide) (by decide) g240 rfl rT6 (by decide) ?_
          refine r_getiN (pc := 43) 0 8 7 hI C dX3_readTest_43 (by decide) (by decide) g191 rfl rT0 (by decide) ?_
          refine e_sipush (v := (315 : Int32)) (pc := 46) C dX3_readTest_46 (by decide) ?_
          obtain ⟨j_57, ej_57, hf⟩ := nn_e hf
          have W_57 : ∀ (s0_57 : Int32), j_57 s0_57 = some y → EE G p l e ({ frames := (4 + 2 * k + 1), cells := 0, slots := 0, locals := (88 + 100 * k + 50) } : Room) s m args below meth c (none, rh h T y) 0 0 57 [(0, .ref (T + 6)), (1, .int v1), (2, .int v2), (3, .int v3)] [.int s0_57] (rh h T w5) 0 0 := by
            intro s0_57 hf
            rw [ej_57] at hf
            refine e_istore (pc := 57) (lv2 := [(4, .int s0_57), (0, .ref (T + 6)), (1, .int v1), (2, .int v2), (3, .int v3)]) C hm dX3_readTest_57 (by decide) rfl ?_
            refine e_iload (pc := 59) C dX3_readTest_59 0 rfl ?_
            obtain ⟨j_75, ej_75, hf⟩ := nn_e hf
            have W_75 : ∀ (h_75 : MS), j_75 h_75 = some y → EE G p l e ({ frames := (4 + 2 * k + 1), cells := 0, slots := 0, locals := (88 + 100 * k + 50) } : Room) s m args below meth c (none, rh h T y) 0 0 75 [(0, .ref (T + 6)), (1, .int v1), (2, .int v2), (3, .int v3), (4, .int s0_57)] [] (rh h T h_75) 0 0 := by
              intro h_75 hf
              rw [ej_75] at hf
              refine e_iload_n (pc := 75) C dX3_readTest_75 2 rfl rfl ?_
              obtain ⟨j_89, ej_89, hf⟩ := nn_e hf
              have W_89 : ∀ (s0_89 : Int32), j_89 s0_89 = some y → EE G p l e ({ frames := (4 + 2 * k + 1), cells := 0, slots := 0, locals := (88 + 100 * k + 50) } : Room) s m args below meth c (none, rh h T y) 0 0 89 [(0, .ref (T + 6)), (1, .int v1), (3, .int v3), (4, .int s0_57)] [.int s0_89] (rh h T h_75) 0 0 := by
                intro s0_89 hf
                rw [ej_89] at hf
                refine e_istore_n (pc := 89) (lv2 := [(2, .int s0_89), (0, .ref (T + 6)), (1, .int v1), (3, .int v3), (4, .int s0_57)]) C hm dX3_readTest_89 rfl (by decide) rfl ?_
                refine e_aload_n (pc := 90) C dX3_readTest_90 1 rfl rfl ?_
                refine r_getr (pc := 91) 6 3 0 0 hI C dX3_readTest_91 (by decide) (by decide) g240 rfl rT6 (by decide) ?_
                obtain ⟨w9, y10, hf⟩ := ob_e hf
                refine e_callVv (pc := 94) (st := []) 8 C (st_X8_advance hI y10) dX3_readTest_94 (by decide) (hI.1 _ rT0) g818 g715 g716 g147 g717 hd_X8_advance rfl ⟨by dsimp only; omega, by dsimp only; omega⟩ ⟨Nat.le_of_ble_eq_true rfl, Nat.le_of_ble_eq_true rfl⟩ rfl (Nat.le_of_ble_eq_true rfl) ?_
                refine e_aload_n (pc := 97) C dX3_readTest_97 1 rfl rfl ?_
                refine e_iload_n (pc := 98) C dX3_readTest_98 2 rfl rfl ?_
                obtain ⟨w11, y12, hf⟩ := ob_e hf
                refine e_callVv (pc := 99) (st := []) 3 C (hrf y12) dX3_readTest_99 (by decide) (hI.1 _ rT6) g838 g840 g21 g149 g841 hd_X3_readFact rfl ⟨by dsimp only; omega, by dsimp only; omega⟩ ⟨Nat.le_of_ble_eq_true rfl, Nat.le_of_ble_eq_true rfl⟩ rfl (Nat.le_of_ble_eq_true rfl) ?_
                refine e_iload (pc := 102) C dX3_readTest_102 4 rfl ?_
                obtain ⟨j_114, ej_114, hf⟩ := nn_e hf
                have W_114 : ∀ (h_114 : MS), j_114 h_114 = some y → EE G p l e ({ frames := (4 + 2 * k + 1), cells := 0, slots := 0, locals := (88 + 100 * k + 50) } : Room) s m args below meth c (none, rh h T y) 0 0 114 [(0, .ref (T + 6)), (1, .int v1), (2, .int s0_89), (3, .int v3)] [] (rh h T h_114) 0 0 := by
                  intro h_114 hf
                  rw [ej_114] at hf
                  obtain ⟨x13, ex13, hf⟩ := nn_e hf
                  refine e_iinc (pc := 114) (v := x13) (lv2 := [(3, .int x13), (0, .ref (T + 6)), (1, .int v1), (2, .int s0_89)]) C hm dX3_readTest_114 3 rfl (by rw [ex13]; rfl) (by decide) rfl ?_
                  refine e_goto (pc := 117) (tgt := 9) C dX3_readTest_117 (by decide) ?_
                  refine e_lv (lv2 := [(0, .ref (T + 6)), (1, .int v1), (2, .int s0_89), (3, .int x13)]) [1, 2, 3, 0] rfl ?_
                  exact ih_9 s0_89 x13 h_114 hf
                rcases it_e hf with ⟨c14, hf⟩ | ⟨c14, hf⟩
                · refine e_if_ne (pc := 104) (tgt := 114) C dX3_readTest_104 (by decide) (fun q => absurd c14 q) (fun _ => ?_)
                  refine e_aload_n (pc := 107) C dX3_readTest_107 1 rfl rfl ?_
                  refine e_sipush (v := (-316 : Int32)) (pc := 108) C dX3_readTest_108 (by decide) ?_
                  obtain ⟨w15, y16, hf⟩ := ob_e hf
                  refine e_callVv (pc := 111) (st := []) 3 C (st_X3_write hI y16) dX3_readTest_111 (by decide) (hI.1 _ rT6) g827 g829 g19 g149 g830 hd_X3_write rfl ⟨by dsimp only; omega, by dsimp only; omega⟩ ⟨Nat.le_of_ble_eq_true rfl, Nat.le_of_ble_eq_true rfl⟩ rfl (Nat.le_of_ble_eq_true rfl) ?_
                  refine e_lv (lv2 := [(0, .ref (T + 6)), (1, .int v1), (2, .int s0_89), (3, .int v3)]) [1, 2, 0, 3] rfl ?_
                  exact W_114 w15 hf
                · refine e_if_ne (pc := 104) (tgt := 114) C dX3_readTest_104 (by decide) (fun _ => ?_) (fun q => absurd q c14)
                  refine e_lv (lv2 := [(0, .ref (T + 6)), (1, .int v1), (2, .int s0_89), (3, .int v3)]) [1, 2, 0, 3] rfl ?_
                  exact W_114 w11 hf
              obtain ⟨j_84, ej_84, hf⟩ := nn_e hf
              have W_84 : ∀ (uu_84 : Unit), j_84 uu_84 = some y → EE G p l e ({ frames := (4 + 2 * k + 1), cells := 0, slots := 0, locals := (88 + 100 * k + 50) } : Room) s m args below meth c (none, rh h T y) 0 0 84 [(0, .ref (T + 6)), (1, .int v1), (3, .int v3), (4, .int s0_57)] [] (rh h T h_75) 0 0 := by
                intro uu_84 hf
                rw [ej_84] at hf
                refine e_iconst (v := (1 : Int32)) (pc := 84) C dX3_readTest_84 (by decide) ?_
                refine e_goto (pc := 85) (tgt := 89) C dX3_readTest_85 (by decide) ?_
                exact W_89 (1 : Int32) hf
              rcases it_e hf with ⟨c17, hf⟩ | ⟨c17, hf⟩
              · refine e_if_ne (pc := 76) (tgt := 84) C dX3_readTest_76 (by decide) (fun q => absurd c17 q) (fun _ => ?_)
                refine e_iload (pc := 79) C dX3_readTest_79 4 rfl ?_
                rcases it_e hf with ⟨c18, hf⟩ | ⟨c18, hf⟩
                · refine e_if_eq (pc := 81) (tgt := 88) C dX3_readTest_81 (by decide) (fun _ => ?_) (fun q => absurd c18 q)
                  refine e_iconst (v := (0 : Int32)) (pc := 88) C dX3_readTest_88 (by decide) ?_
                  refine e_lv (lv2 := [(0, .ref (T + 6)), (1, .int v1), (3, .int v3), (4, .int s0_57)]) [0, 1, 3, 4] rfl ?_
                  exact W_89 (0 : Int32) hf
                · refine e_if_eq (pc := 81) (tgt := 88) C dX3_readTest_81 (by decide) (fun q => absurd q c18) (fun _ => ?_)
                  refine e_lv (lv2 := [(0, .ref (T + 6)), (1, .int v1), (3, .int v3), (4, .int s0_57)]) [0, 1, 3, 4] rfl ?_
                  exact W_84 () hf
              · refine e_if_ne (pc := 76) (tgt := 84) C dX3_readTest_76 (by decide) (fun _ => ?_) (fun q => absurd q c17)
                refine e_lv (lv2 := [(0, .ref (T + 6)), (1, .int v1), (3, .int v3), (4, .int s0_57)]) [0, 1, 3, 4] rfl ?_
                exact W_84 () hf
            rcases it_e hf with ⟨c19, hf⟩ | ⟨c19, hf⟩
            · refine e_if_eq (pc := 61) (tgt := 75) C dX3_readTest_61 (by decide) (fun _ => ?_) (fun q => absurd c19 q)
              refine e_lv (lv2 := [(0, .ref (T + 6)), (1, .int v1), (2, .int v2), (3, .int v3), (4, .int s0_57)]) [1, 2, 3, 4, 0] rfl ?_
              exact W_75 w5 hf
            · refine e_if_eq (pc := 61) (tgt := 75) C dX3_readTest_61 (by decide) (fun q => absurd q c19) (fun _ => ?_)
              refine e_iload_n (pc := 64) C dX3_readTest_64 3 rfl rfl ?_
              rcases it_e hf with ⟨c20, hf⟩ | ⟨c20, hf⟩
              · refine e_if_eq (pc := 65) (tgt := 75) C dX3_readTest_65 (by decide) (fun _ => ?_) (fun q => absurd c20 q)
                refine e_lv (lv2 := [(0, .ref (T + 6)), (1, .int v1), (2, .int v2), (3, .int v3), (4, .int s0_57)]) [1, 2, 3, 4, 0] rfl ?_
                exact W_75 w5 hf
              · refine e_if_eq (pc := 65) (tgt := 75) C dX3_readTest_65 (by decide) (fun q => absurd q c20) (fun _ => ?_)
                refine e_aload_n (pc := 68) C dX3_readTest_68 1 rfl rfl ?_
                refine e_sipush (v := (-315 : Int32)) (pc := 69) C dX3_readTest_69 (by decide) ?_
                obtain ⟨w21, y22, hf⟩ := ob_e hf
                refine e_callVv (pc := 72) (st := []) 3 C (st_X3_write hI y22) dX3_readTest_72 (by decide) (hI.1 _ rT6) g827 g829 g19 g149 g830 hd_X3_write rfl ⟨by dsimp only; omega, by dsimp only; omega⟩ ⟨Nat.le_of_ble_eq_true rfl, Nat.le_of_ble_eq_true rfl⟩ rfl (Nat.le_of_ble_eq_true rfl) ?_
                refine e_lv (lv2 := [(0, .ref (T + 6)), (1, .int v1), (2, .int v2), (3, .int v3), (4, .int s0_57)]) [1, 2, 3, 4, 0] rfl ?_
                exact W_75 w21 hf
          rcases it_e hf with ⟨c23, hf⟩ | ⟨c23, hf⟩
          · refine e_icmp_ne (pc := 49) (tgt := 56) C dX3_readTest_49 (by decide) (fun q => absurd c23 q) (fun _ => ?_)
            refine e_iconst (v := (1 : Int32)) (pc := 52) C dX3_readTest_52 (by decide) ?_
            refine e_goto (pc := 53) (tgt := 57) C dX3_readTest_53 (by decide) ?_
            exact W_57 (1 : Int32) hf
          · refine e_icmp_ne (pc := 49) (tgt := 56) C dX3_readTest_49 (by decide) (fun _ => ?_) (fun q => absurd q c23)
            refine e_iconst (v := (0 : Int32)) (pc := 56) C dX3_readTest_56 (by decide) ?_
            exact W_57 (0 : Int32) hf
      · refine e_if_ne (pc := 23) (tgt := 120) C dX3_readTest_23 (by decide) (fun _ => ?_) (fun q => absurd q c4)
        refine e_lv (lv2 := [(0, .ref (T + 6)), (2, .int v2)]) [0, 2] rfl ?_
        exact hK_120 v2 w hf
set_option maxHeartbeats 4000000 in
set_option maxRecDepth 100000 in
theorem st_X3_readTest {G : GG} {l : Launch} {T : Nat} {h : AH} (hI : RI h T) {k : Nat} {rf : Int32 → MS → Option MS} (hrf : ∀ {v1 : Int32} {w y : MS}, rf v1 w = some y → Ct G l yX3_readFact cX3_readFact 3 none (4 + 2 * k) (88 + 100 * k) 0 0 [.ref (T + 6), .int v1] (rh h T w) (none, rh h T y)) {v1 : Int32} {w : MS} {y : MS} (hf : s_X3_readTest G rf v1 w = some y) : Ct G l yX3_readTest cX3_readTest 5 none (4 + 2 * k + 1) (88 + 100 * k + 50) 0 0 [.ref (T + 6), .int v1] (rh h T w) (none, rh h T y) := by
  refine ct_of (by decide) (Nat.le_of_ble_eq_true rfl) ?_
  intro p e s m args below meth c C hm hr hin
  have C : Cx G cX3_readTest RX3 p s m args meth c := C
  refine e_lv (lv2 := [(0, .ref (T + 6)), (1, .int v1)]) [0, 1] rfl ?_
  unfold s_X3_readTest at hf
  refine e_aload_n (pc := 0) C dX3_readTest_0 0 rfl rfl ?_
  refine e_iload_n (pc := 1) C dX3_readTest_1 1 rfl rfl ?_
  obtain ⟨w1, y2, hf⟩ := ob_e hf
  refine e_callVv (pc := 2) (st := []) 3 C (hrf y2) dX3_readTest_2 (by decide) (hI.1 _ rT6) g838 g840 g21 g149 g841 hd_X3_readFact rfl ⟨by dsimp only; omega, by dsimp only; omega⟩ ⟨Nat.le_of_ble_eq_true rfl, Nat.le_of_ble_eq_true rfl⟩ rfl (Nat.le_of_ble_eq_true rfl) ?_
  refine e_iconst (v := (0 : Int32)) (pc := 5) C dX3_readTest_5 (by decide) ?_
  refine e_istore_n (pc := 6) (lv2 := [(2, .int (0 : Int32)), (0, .ref (T + 6)), (1, .int v1)]) C hm dX3_readTest_6 rfl (by decide) rfl ?_
  refine e_iconst (v := (0 : Int32)) (pc := 7) C dX3_readTest_7 (by decide) ?_
  refine e_istore_n (pc := 8) (lv2 := [(3, .int (0 : Int32)), (2, .int (0 : Int32)), (0, .ref (T + 6)), (1, .int v1)]) C hm dX3_readTest_8 rfl (by decide) rfl ?_
  refine e_lv (lv2 := [(0, .ref (T + 6)), (1, .int v1), (2, .int (0 : Int32)), (3, .int (0 : Int32))]) [2, 3, 1, 0] rfl ?_
  refine es_X3_readTest_9 hI hrf C hm hr hin (fun v2_120 h_120 hf => ?_) bN (0 : Int32) (0 : Int32) w1 hf
  refine e_iload_n (pc := 120) C dX3_readTest_120 1 rfl rfl ?_
  rcases it_e hf with ⟨c24, hf⟩ | ⟨c24, hf⟩
  · refine e_if_eq (pc := 121) (tgt := 131) C dX3_readTest_121 (by decide) (fun _ => ?_) (fun q => absurd c24 q)
    obtain rfl := so_e hf
    exact e_vret (pc := 131) C hr dX3_readTest_131 (Nat.le_of_ble_eq_true rfl) (Nat.le_of_ble_eq_true rfl)
  · refine e_if_eq (pc := 121) (tgt := 131) C dX3_readTest_121 (by decide) (fun q => absurd q c24) (fun _ => ?_)
    refine e_aload_n (pc := 124) C dX3_readTest_124 0 rfl rfl ?_
    refine e_sipush (v := (-315 : Int32)) (pc := 125) C dX3_readTest_125 (by decide) ?_
    obtain ⟨w25, y26, hf⟩ := ob_e hf
    refine e_callVv (pc := 128) (st := []) 3 C (st_X3_write hI y26) dX3_readTest_128 (by decide) (hI.1 _ rT6) g827 g829 g19 g149 g830 hd_X3_write rfl ⟨by dsimp only; omega, by dsimp only; omega⟩ ⟨Nat.le_of_ble_eq_true rfl, Nat.le_of_ble_eq_true rfl⟩ rfl (Nat.le_of_ble_eq_true rfl) ?_
    obtain rfl := so_e hf
    exact e_vret (pc := 131) C hr dX3_readTest_131 (Nat.le_of_ble_eq_true rfl) (Nat.le_of_ble_eq_true rfl)
theorem dX3_readFact_0 : decode cX3_readFact 0 = .ok (.aload_n 0, 1) := by decide +kernel
theorem dX3_readFact_1 : decode cX3_readFact 1 = .ok (.getfield 22, 3) := by decide +kernel
theorem dX3_readFact_4 : decode cX3_readFact 4 = .ok (.getfield 44, 3) := by decide +kernel
theorem dX3_readFact_7 : decode cX3_readFact 7 = .ok (.istore_n 2, 1) := by decide +kernel
theorem dX3_readFact_8 : decode cX3_readFact 8 = .ok (.iload_n 2, 1) := by decide +kernel
theorem dX3_readFact_9 : decode cX3_readFact 9 = .ok (.sipush 317, 3) := by decide +kernel
theorem dX3_readFact_12 : decode cX3_readFact 12 = .ok (.if_icmp .eq 16, 3) := by decide +kernel
theorem dX3_readFact_15 : decode cX3_readFact 15 = .ok (.iload_n 2, 1) := by decide +kernel
theorem dX3_readFact_16 : decode cX3_readFact 16 = .ok (.bipush 91, 2) := by decide +kernel
theorem dX3_readFact_18 : decode cX3_readFact 18 = .ok (.if_icmp .eq 10, 3) := by decide +kernel
theorem dX3_readFact_21 : decode cX3_readFact 21 = .ok (.aload_n 0, 1) := by decide +kernel
theorem dX3_readFact_22 : decode cX3_readFact 22 = .ok (.invokevirtual 80, 3) := by decide +kernel
theorem dX3_readFact_25 : decode cX3_readFact 25 = .ok (.goto 74, 3) := by decide +kernel
theorem dX3_readFact_28 : decode cX3_readFact 28 = .ok (.iload_n 1, 1) := by decide +kernel
theorem dX3_readFact_29 : decode cX3_readFact 29 = .ok (.bipush 10, 2) := by decide +kernel
theorem dX3_readFact_31 : decode cX3_readFact 31 = .ok (.if_icmp .lt 14, 3) := by decide +kernel
theorem dX3_readFact_34 : decode cX3_readFact 34 = .ok (.aload_n 0, 1) := by decide +kernel
theorem dX3_readFact_35 : decode cX3_readFact 35 = .ok (.getfield 22, 3) := by decide +kernel
theorem dX3_readFact_38 : decode cX3_readFact 38 = .ok (.iconst 2, 1) := by decide +kernel
theorem dX3_readFact_39 : decode cX3_readFact 39 = .ok (.invokevirtual 70, 3) := by decide +kernel
theorem dX3_readFact_42 : decode cX3_readFact 42 = .ok (.goto 57, 3) := by decide +kernel
theorem dX3_readFact_45 : decode cX3_readFact 45 = .ok (.iload_n 2, 1) := by decide +kernel
theorem dX3_readFact_46 : decode cX3_readFact 46 = .ok (.sipush 317, 3) := by decide +kernel
theorem dX3_readFact_49 : decode cX3_readFact 49 = .ok (.if_icmp .ne 27, 3) := by decide +kernel
theorem dX3_readFact_52 : decode cX3_readFact 52 = .ok (.aload_n 0, 1) := by decide +kernel
theorem dX3_readFact_53 : decode cX3_readFact 53 = .ok (.getfield 22, 3) := by decide +kernel
theorem dX3_readFact_56 : decode cX3_readFact 56 = .ok (.invokevirtual 47, 3) := by decide +kernel
theorem dX3_readFact_59 : decode cX3_readFact 59 = .ok (.aload_n 0, 1) := by decide +kernel
theorem dX3_readFact_60 : decode cX3_readFact 60 = .ok (.iload_n 1, 1) := by decide +kernel
theorem dX3_readFact_61 : decode cX3_readFact 61 = .ok (.iconst 1, 1) := by decide +kernel
theorem dX3_readFact_62 : decode cX3_readFact 62 = .ok (.iadd, 1) := by decide +kernel
theorem dX3_readFact_63 : decode cX3_readFact 63 = .ok (.invokevirtual 73, 3) := by decide +kernel
theorem dX3_readFact_66 : decode cX3_readFact 66 = .ok (.aload_n 0, 1) := by decide +kernel
theorem dX3_readFact_67 : decode cX3_readFact 67 = .ok (.sipush (-317), 3) := by decide +kernel
theorem dX3_readFact_70 : decode cX3_readFact 70 = .ok (.invokevirtual 53, 3) := by decide +kernel
theorem dX3_readFact_73 : decode cX3_readFact 73 = .ok (.goto 26, 3) := by decide +kernel
theorem dX3_readFact_76 : decode cX3_readFact 76 = .ok (.aload_n 0, 1) := by decide +kernel
theorem dX3_readFact_77 : decode cX3_readFact 77 = .ok (.getfield 22, 3) := by decide +kernel
theorem dX3_readFact_80 : decode cX3_readFact 80 = .ok (.invokevirtual 47, 3) := by decide +kernel
theorem dX3_readFact_83 : decode cX3_readFact 83 = .ok (.aload_n 0, 1) := by decide +kernel
theorem dX3_readFact_84 : decode cX3_readFact 84 = .ok (.iload_n 1, 1) := by decide +kernel
theorem dX3_readFact_85 : decode cX3_readFact 85 = .ok (.iconst 1, 1) := by decide +kernel
theorem dX3_readFact_86 : decode cX3_readFact 86 = .ok (.iadd, 1) := by decide +kernel
theorem dX3_readFact_87 : decode cX3_readFact 87 = .ok (.invokevirtual 50, 3) := by decide +kernel
theorem dX3_readFact_90 : decode cX3_readFact 90 = .ok (.aload_n 0, 1) := by decide +kernel
theorem dX3_readFact_91 : decode cX3_readFact 91 = .ok (.getfield 22, 3) := by decide +kernel
theorem dX3_readFact_94 : decode cX3_readFact 94 = .ok (.bipush 93, 2) := by decide +kernel
theorem dX3_readFact_96 : decode cX3_readFact 96 = .ok (.invokevirtual 56, 3) := by decide +kernel
theorem dX3_readFact_99 : decode cX3_readFact 99 = .ok (.return_, 1) := by decide +kernel
def s_X3_readFact_o (G : GG) (rf : Int32 → MS → Option MS) (v1 : Int32) (w : MS) : Option (MS) :=
nn (w.1 0 7) fun x1 =>
nn (fun (uu_28 : Unit) => (if v1 < (10 : Int32) then (if x1 = (317 : Int32) then (ob (s_X8_advance G w) fun w4 =>
ob (rf (v1 + (1 : Int32)) w4) fun w6 =>
ob (s_X3_write G (-317 : Int32) w6) fun w8 =>
some w8) else
ob (s_X8_advance G w) fun w10 =>
ob (s_X3_readTest G rf (v1 + (1 : Int32)) w10) fun w12 =>
ob (s_X8_takeByte G (93 : Int32) w12) fun w14 =>
some w14) else
ob (s_X8_fail G (2 : Int32) w) fun w16 =>
some w16)) fun j_28 =>
if x1 = (317 : Int32) then (j_28 ()) else
if x1 = (91 : Int32) then (j_28 ()) else
ob (s_X3_readComparison G w) fun w20 =>
some w20
set_option maxHeartbeats 4000000 in
set_option maxRecDepth 100000 in
theorem st_X3_readFact_o {G : GG} {l : Launch} {T : Nat} {h : AH} (hI : RI h T) {k : Nat} {rf : Int32 → MS → Option MS} (hrf : ∀ {v1 : Int32} {w y : MS}, rf v1 w = some y → Ct G l yX3_readFact cX3_readFact 3 none (4 + 2 * k) (88 + 100 * k) 0 0 [.ref (T + 6), .int v1] (rh h T w) (none, rh h T y)) {v1 : Int32} {w : MS} {y : MS} (hf : s_X3_readFact_o G rf v1 w = some y) : Ct G l yX3_readFact cX3_readFact 3 none (4 + 2 * (k + 1)) (88 + 100 * (k + 1)) 0 0 [.ref (T + 6), .int v1] (rh h T w) (none, rh h T y) := by
  refine ct_of (by decide) (Nat.le_of_ble_eq_true rfl) ?_
  intro p e s m args below meth c C hm hr hin
  have C : Cx G cX3_readFact RX3 p s m args meth c := C
  refine e_lv (lv2 := [(0, .ref (T + 6)), (1, .int v1)]) [0, 1] rfl ?_
  unfold s_X3_readFact_o at hf
  refine e_aload_n (pc := 0) C dX3_readFact_0 0 rfl rfl ?_
  refine r_getr (pc := 1) 6 3 0 0 hI C dX3_readFact_1 (by decide) (by decide) g240 rfl rT6 (by decide) ?_
  refine r_getiN (pc := 4) 0 8 7 hI C dX3_readFact_4 (by decide) (by decide) g191 rfl rT0 (by decide) ?_
  obtain ⟨x1, ex1, hf⟩ := nn_e hf
  refine e_topi ex1 ?_
  refine e_istore_n (pc := 7) (lv2 := [(2, .int x1), (0, .ref (T + 6)), (1, .int v1)]) C hm dX3_readFact_7 rfl (by decide) rfl ?_
  refine e_iload_n (pc := 8) C dX3_readFact_8 0 rfl rfl ?_
  refine e_sipush (v := (317 : Int32)) (pc := 9) C dX3_readFact_9 (by decide) ?_
  obtain ⟨j_28, ej_28, hf⟩ := nn_e hf
  have W_28 : ∀ (uu_28 : Unit), j_28 uu_28 = some y → EE G p l e ({ frames := (4 + 2 * (k + 1)), cells := 0, slots := 0, locals := (88 + 100 * (k + 1)) } : Room) s m args below meth c (none, rh h T y) 0 0 28 [(0, .ref (T + 6)), (1, .int v1), (2, .int x1)] [] (rh h T w) 0 0 := by
    intro uu_28 hf
    rw [ej_28] at hf
    refine e_iload_n (pc := 28) C dX3_readFact_28 1 rfl rfl ?_
    refine e_bipush (v := (10 : Int32)) (pc := 29) C dX3_readFact_29 (by decide) ?_
    rcases it_e hf with ⟨c2, hf⟩ | ⟨c2, hf⟩
    · refine e_icmp_lt (pc := 31) (tgt := 45) C dX3_readFact_31 (by decide) (fun _ => ?_) (fun q => absurd c2 q)
      refine e_iload_n (pc := 45) C dX3_readFact_45 2 rfl rfl ?_
      refine e_sipush (v := (317 : Int32)) (pc := 46) C dX3_readFact_46 (by decide) ?_
      rcases it_e hf with ⟨c3, hf⟩ | ⟨c3, hf⟩
      · refine e_icmp_ne (pc := 49) (tgt := 76) C dX3_readFact_49 (by decide) (fun q => absurd c3 q) (fun _ => ?_)
        refine e_aload_n (pc := 52) C dX3_readFact_52 0 rfl rfl ?_
        refine r_getr (pc := 53) 6 3 0 0 hI C dX3_readFact_53 (by decide) (by decide) g240 rfl rT6 (by decide) ?_
        obtain ⟨w4, y5, hf⟩ := ob_e hf
        refine e_callVv (pc := 56) (st := []) 8 C (st_X8_advance hI y5) dX3_readFact_56 (by decide) (hI.1 _ rT0) g818 g715 g716 g147 g717 hd_X8_advance rfl ⟨by dsimp only; omega, by dsimp only; omega⟩ ⟨Nat.le_of_ble_eq_true rfl, Nat.le_of_ble_eq_true rfl⟩ rfl (Nat.le_of_ble_eq_true rfl) ?_
        refine e_aload_n (pc := 59) C dX3_readFact_59 0 rfl rfl ?_
        refine e_iload_n (pc := 60) C dX3_readFact_60 1 rfl rfl ?_
        refine e_iconst (v := (1 : Int32)) (pc := 61) C dX3_readFact_61 (by decide) ?_
        refine e_iadd (pc := 62) C dX3_readFact_62 ?_
        obtain ⟨w6, y7, hf⟩ := ob_e hf
        refine e_callVv (pc := 63) (st := []) 3 C (hrf y7) dX3_readFact_63 (by decide) (hI.1 _ rT6) g838 g840 g21 g149 g841 hd_X3_readFact rfl ⟨by dsimp only; omega, by dsimp only; omega⟩ ⟨Nat.le_of_ble_eq_true rfl, Nat.le_of_ble_eq_true rfl⟩ rfl (Nat.le_of_ble_eq_true rfl) ?_
        refine e_aload_n (pc := 66) C dX3_readFact_66 0 rfl rfl ?_
        refine e_sipush (v := (-317 : Int32)) (pc := 67) C dX3_readFact_67 (by decide) ?_
        obtain ⟨w8, y9, hf⟩ := ob_e hf
        refine e_callVv (pc := 70) (st := []) 3 C (st_X3_write hI y9) dX3_readFact_70 (by decide) (hI.1 _ rT6) g827 g829 g19 g149 g830 hd_X3_write rfl ⟨by dsimp only; omega, by dsimp only; omega⟩ ⟨Nat.le_of_ble_eq_true rfl, Nat.le_of_ble_eq_true rfl⟩ rfl (Nat.le_of_ble_eq_true rfl) ?_
        refine e_goto (pc := 73) (tgt := 99) C dX3_readFact_73 (by decide) ?_
        obtain rfl := so_e hf
        exact e_vret (pc := 99) C hr dX3_readFact_99 (Nat.le_of_ble_eq_true rfl) (Nat.le_of_ble_eq_true rfl)
      · refine e_icmp_ne (pc := 49) (tgt := 76) C dX3_readFact_49 (by decide) (fun _ => ?_) (fun q => absurd q c3)
        refine e_aload_n (pc := 76) C dX3_readFact_76 0 rfl rfl ?_
        refine r_getr (pc := 77) 6 3 0 0 hI C dX3_readFact_77 (by decide) (by decide) g240 rfl rT6 (by decide) ?_
        obtain ⟨w10, y11, hf⟩ := ob_e hf
        refine e_callVv (pc := 80) (st := []) 8 C (st_X8_advance hI y11) dX3_readFact_80 (by decide) (hI.1 _ rT0) g818 g715 g716 g147 g717 hd_X8_advance rfl ⟨by dsimp only; omega, by dsimp only; omega⟩ ⟨Nat.le_of_ble_eq_true rfl, Nat.le_of_ble_eq_true rfl⟩ rfl (Nat.le_of_ble_eq_true rfl) ?_
        refine e_aload_n (pc := 83) C dX3_readFact_83 0 rfl rfl ?_
        refine e_iload_n (pc := 84) C dX3_readFact_84 1 rfl rfl ?_
        refine e_iconst (v := (1 : Int32)) (pc := 85) C dX3_readFact_85 (by decide) ?_
        refine e_iadd (pc := 86) C dX3_readFact_86 ?_
        obtain ⟨w12, y13, hf⟩ := ob_e hf
        refine e_callVv (pc := 87) (st := []) 3 C (st_X3_readTest hI hrf y13) dX3_readFact_87 (by decide) (hI.1 _ rT6) g834 g836 g20 g149 g837 hd_X3_readTest rfl ⟨by dsimp only; omega, by dsimp only; omega⟩ ⟨Nat.le_of_ble_eq_true rfl, Nat.le_of_ble_eq_true rfl⟩ rfl (Nat.le_of_ble_eq_true rfl) ?_
        refine e_aload_n (pc := 90) C dX3_readFact_90 0 rfl rfl ?_
        refine r_getr (pc := 91) 6 3 0 0 hI C dX3_readFact_91 (by decide) (by decide) g240 rfl rT6 (by decide) ?_
        refine e_bipush (v := (93 : Int32)) (pc := 94) C dX3_readFact_94 (by decide) ?_
        obtain ⟨w14, y15, hf⟩ := ob_e hf
        refine e_callVv (pc := 96) (st := []) 8 C (st_X8_takeByte hI y15) dX3_readFact_96 (by decide) (hI.1 _ rT0) g846 g769 g770 g147 g771 hd_X8_takeByte rfl ⟨by dsimp only; omega, by dsimp only; omega⟩ ⟨Nat.le_of_ble_eq_true rfl, Nat.le_of_ble_eq_true rfl⟩ rfl (Nat.le_of_ble_eq_true rfl) ?_
        obtain rfl := so_e hf
        exact e_vret (pc := 99) C hr dX3_readFact_99 (Nat.le_of_ble_eq_true rfl) (Nat.le_of_ble_eq_true rfl)
    · refine e_icmp_lt (pc := 31) (tgt := 45) C dX3_readFact_31 (by decide) (fun q => absurd q c2) (fun _ => ?_)
      refine e_aload_n (pc := 34) C dX3_readFact_34 0 rfl rfl ?_
      refine r_getr (pc := 35) 6 3 0 0 hI C dX3_readFact_35 (by decide) (by decide) g240 rfl rT6 (by decide) ?_
      refine e_iconst (v := (2 : Int32)) (pc := 38) C dX3_readFact_38 (by decide) ?_
      obtain ⟨w16, y17, hf⟩ := ob_e hf
      refine e_callVv (pc := 39) (st := []) 8 C (st_X8_fail hI y17) dX3_readFact_39 (by decide) (hI.1 _ rT0) g817 g723 g724 g147 g725 hd_X8_fail rfl ⟨by dsimp only; omega, by dsimp only; omega⟩ ⟨Nat.le_of_ble_eq_true rfl, Nat.le_of_ble_eq_true rfl⟩ rfl (Nat.le_of_ble_eq_true rfl) ?_
      refine e_goto (pc := 42) (tgt := 99) C dX3_readFact_42 (by decide) ?_
      obtain rfl := so_e hf
      exact e_vret (pc := 99) C hr dX3_readFact_99 (Nat.le_of_ble_eq_true rfl) (Nat.le_of_ble_eq_true rfl)
  rcases it_e hf with ⟨c18, hf⟩ | ⟨c18, hf⟩
  · refine e_icmp_eq (pc := 12) (tgt := 28) C dX3_readFact_12 (by decide) (fun _ => ?_) (fun q => absurd c18 q)
    refine e_lv (lv2 := [(0, .ref (T + 6)), (1, .int v1), (2, .int x1)]) [1, 2, 0] rfl ?_
    exact W_28 () hf
  · refine e_icmp_eq (pc := 12) (tgt := 28) C dX3_readFact_12 (by decide) (fun q => absurd q c18) (fun _ => ?_)
    refine e_iload_n (pc := 15) C dX3_readFact_15 0 rfl rfl ?_
    refine e_bipush (v := (91 : Int32)) (pc := 16) C dX3_readFact_16 (by decide) ?_
    rcases it_e hf with ⟨c19, hf⟩ | ⟨c19, hf⟩
    · refine e_icmp_eq (pc := 18) (tgt := 28) C dX3_readFact_18 (by decide) (fun _ => ?_) (fun q => absurd c19 q)
      refine e_lv (lv2 := [(0, .ref (T + 6)), (1, .int v1), (2, .int x1)]) [1, 2, 0] rfl ?_
      exact W_28 () hf
    · refine e_icmp_eq (pc := 18) (tgt := 28) C dX3_readFact_18 (by decide) (fun q => absurd q c19) (fun _ => ?_)
      refine e_aload_n (pc := 21) C dX3_readFact_21 1 rfl rfl ?_
      obtain ⟨w20, y21, hf⟩ := ob_e hf
      refine e_callVv (pc := 22) (st := []) 3 C (st_X3_readComparison hI y21) dX3_readFact_22 (by decide) (hI.1 _ rT6) g842 g844 g22 g149 g845 hd_X3_readComparison rfl ⟨by dsimp only; omega, by dsimp only; omega⟩ ⟨Nat.le_of_ble_eq_true rfl, Nat.le_of_ble_eq_true rfl⟩ rfl (Nat.le_of_ble_eq_true rfl) ?_
      refine e_goto (pc := 25) (tgt := 99) C dX3_readFact_25 (by decide) ?_
      obtain rfl := so_e hf
      exact e_vret (pc := 99) C hr dX3_readFact_99 (Nat.le_of_ble_eq_true rfl) (Nat.le_of_ble_eq_true rfl)
def s_X3_readFact (G : GG) : Nat → Int32 → MS → Option MS
  | 0 => fun _ _ => none
  | n + 1 => s_X3_readFact_o G (s_X3_readFact G n)
theorem st_X3_readFact {G : GG} {l : Launch} {T : Nat} {h : AH} (hI : RI h T) : ∀ (n : Nat) {v1 : Int32} {w y : MS}, s_X3_readFact G n v1 w = some y → Ct G l yX3_readFact cX3_readFact 3 none (4 + 2 * n) (88 + 100 * n) 0 0 [.ref (T + 6), .int v1] (rh h T w) (none, rh h T y) := by
  intro n
  induction n with
  | zero => intro v1 w y hf; exact (no_e hf).elim
  | succ n ih => intro v1 w y hf; exact st_X3_readFact_o hI ih hf
