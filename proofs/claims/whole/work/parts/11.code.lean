/-! Functions and walks, by a program of ours: J6_bitCount_0f7a4 J7_fill_53178 X5_init X8_init X8_append X8_byteAt X8_isDigit X8_put X8_isLetter X8_isColumn X8_wordIn X8_cutAt X8_advance X8_open X8_fail X8_takeNumber X8_takeByte X9_init X9_hasPerson X9_isTunnel X9_milesToTunnel X9_coldAt X10_init X10_isOutOfPlace X10_readStart X10_readHole X10_readPerson X10_readFront X10_readSays X10_readTunnel X10_readCold -/
theorem dJ6_bitCount_0f7a4_0 : decode cJ6_bitCount_0f7a4 0 = .ok (.iload_n 0, 1) := by decide +kernel
theorem dJ6_bitCount_0f7a4_1 : decode cJ6_bitCount_0f7a4 1 = .ok (.iload_n 0, 1) := by decide +kernel
theorem dJ6_bitCount_0f7a4_2 : decode cJ6_bitCount_0f7a4 2 = .ok (.iconst 1, 1) := by decide +kernel
theorem dJ6_bitCount_0f7a4_3 : decode cJ6_bitCount_0f7a4 3 = .ok (.iushr, 1) := by decide +kernel
theorem dJ6_bitCount_0f7a4_4 : decode cJ6_bitCount_0f7a4 4 = .ok (.ldc_w 265, 3) := by decide +kernel
theorem dJ6_bitCount_0f7a4_7 : decode cJ6_bitCount_0f7a4 7 = .ok (.iand, 1) := by decide +kernel
theorem dJ6_bitCount_0f7a4_8 : decode cJ6_bitCount_0f7a4 8 = .ok (.isub, 1) := by decide +kernel
theorem dJ6_bitCount_0f7a4_9 : decode cJ6_bitCount_0f7a4 9 = .ok (.istore_n 0, 1) := by decide +kernel
theorem dJ6_bitCount_0f7a4_10 : decode cJ6_bitCount_0f7a4 10 = .ok (.iload_n 0, 1) := by decide +kernel
theorem dJ6_bitCount_0f7a4_11 : decode cJ6_bitCount_0f7a4 11 = .ok (.ldc_w 266, 3) := by decide +kernel
theorem dJ6_bitCount_0f7a4_14 : decode cJ6_bitCount_0f7a4 14 = .ok (.iand, 1) := by decide +kernel
theorem dJ6_bitCount_0f7a4_15 : decode cJ6_bitCount_0f7a4 15 = .ok (.iload_n 0, 1) := by decide +kernel
theorem dJ6_bitCount_0f7a4_16 : decode cJ6_bitCount_0f7a4 16 = .ok (.iconst 2, 1) := by decide +kernel
theorem dJ6_bitCount_0f7a4_17 : decode cJ6_bitCount_0f7a4 17 = .ok (.iushr, 1) := by decide +kernel
theorem dJ6_bitCount_0f7a4_18 : decode cJ6_bitCount_0f7a4 18 = .ok (.ldc_w 266, 3) := by decide +kernel
theorem dJ6_bitCount_0f7a4_21 : decode cJ6_bitCount_0f7a4 21 = .ok (.iand, 1) := by decide +kernel
theorem dJ6_bitCount_0f7a4_22 : decode cJ6_bitCount_0f7a4 22 = .ok (.iadd, 1) := by decide +kernel
theorem dJ6_bitCount_0f7a4_23 : decode cJ6_bitCount_0f7a4 23 = .ok (.istore_n 0, 1) := by decide +kernel
theorem dJ6_bitCount_0f7a4_24 : decode cJ6_bitCount_0f7a4 24 = .ok (.iload_n 0, 1) := by decide +kernel
theorem dJ6_bitCount_0f7a4_25 : decode cJ6_bitCount_0f7a4 25 = .ok (.iload_n 0, 1) := by decide +kernel
theorem dJ6_bitCount_0f7a4_26 : decode cJ6_bitCount_0f7a4 26 = .ok (.iconst 4, 1) := by decide +kernel
theorem dJ6_bitCount_0f7a4_27 : decode cJ6_bitCount_0f7a4 27 = .ok (.iushr, 1) := by decide +kernel
theorem dJ6_bitCount_0f7a4_28 : decode cJ6_bitCount_0f7a4 28 = .ok (.iadd, 1) := by decide +kernel
theorem dJ6_bitCount_0f7a4_29 : decode cJ6_bitCount_0f7a4 29 = .ok (.ldc_w 267, 3) := by decide +kernel
theorem dJ6_bitCount_0f7a4_32 : decode cJ6_bitCount_0f7a4 32 = .ok (.iand, 1) := by decide +kernel
theorem dJ6_bitCount_0f7a4_33 : decode cJ6_bitCount_0f7a4 33 = .ok (.istore_n 0, 1) := by decide +kernel
theorem dJ6_bitCount_0f7a4_34 : decode cJ6_bitCount_0f7a4 34 = .ok (.iload_n 0, 1) := by decide +kernel
theorem dJ6_bitCount_0f7a4_35 : decode cJ6_bitCount_0f7a4 35 = .ok (.iload_n 0, 1) := by decide +kernel
theorem dJ6_bitCount_0f7a4_36 : decode cJ6_bitCount_0f7a4 36 = .ok (.bipush 8, 2) := by decide +kernel
theorem dJ6_bitCount_0f7a4_38 : decode cJ6_bitCount_0f7a4 38 = .ok (.iushr, 1) := by decide +kernel
theorem dJ6_bitCount_0f7a4_39 : decode cJ6_bitCount_0f7a4 39 = .ok (.iadd, 1) := by decide +kernel
theorem dJ6_bitCount_0f7a4_40 : decode cJ6_bitCount_0f7a4 40 = .ok (.istore_n 0, 1) := by decide +kernel
theorem dJ6_bitCount_0f7a4_41 : decode cJ6_bitCount_0f7a4 41 = .ok (.iload_n 0, 1) := by decide +kernel
theorem dJ6_bitCount_0f7a4_42 : decode cJ6_bitCount_0f7a4 42 = .ok (.iload_n 0, 1) := by decide +kernel
theorem dJ6_bitCount_0f7a4_43 : decode cJ6_bitCount_0f7a4 43 = .ok (.bipush 16, 2) := by decide +kernel
theorem dJ6_bitCount_0f7a4_45 : decode cJ6_bitCount_0f7a4 45 = .ok (.iushr, 1) := by decide +kernel
theorem dJ6_bitCount_0f7a4_46 : decode cJ6_bitCount_0f7a4 46 = .ok (.iadd, 1) := by decide +kernel
theorem dJ6_bitCount_0f7a4_47 : decode cJ6_bitCount_0f7a4 47 = .ok (.istore_n 0, 1) := by decide +kernel
theorem dJ6_bitCount_0f7a4_48 : decode cJ6_bitCount_0f7a4 48 = .ok (.iload_n 0, 1) := by decide +kernel
theorem dJ6_bitCount_0f7a4_49 : decode cJ6_bitCount_0f7a4 49 = .ok (.bipush 63, 2) := by decide +kernel
theorem dJ6_bitCount_0f7a4_51 : decode cJ6_bitCount_0f7a4 51 = .ok (.iand, 1) := by decide +kernel
theorem dJ6_bitCount_0f7a4_52 : decode cJ6_bitCount_0f7a4 52 = .ok (.ireturn, 1) := by decide +kernel
def f_J6_bitCount_0f7a4 (G : GG) (v0 : Int32) (h : AH) : Option (Int32 × AH) :=
nn (v0 - (((v0.toUInt32 >>> ((1 : Int32).toUInt32 &&& Int32.toUInt32 31)).toInt32) &&& (1431655765 : Int32))) fun x1 =>
nn ((x1 &&& (858993459 : Int32)) + (((x1.toUInt32 >>> ((2 : Int32).toUInt32 &&& Int32.toUInt32 31)).toInt32) &&& (858993459 : Int32))) fun x2 =>
nn ((x2 + ((x2.toUInt32 >>> ((4 : Int32).toUInt32 &&& Int32.toUInt32 31)).toInt32)) &&& (252645135 : Int32)) fun x3 =>
nn (x3 + ((x3.toUInt32 >>> ((8 : Int32).toUInt32 &&& Int32.toUInt32 31)).toInt32)) fun x4 =>
nn (x4 + ((x4.toUInt32 >>> ((16 : Int32).toUInt32 &&& Int32.toUInt32 31)).toInt32)) fun x5 =>
some (x5 &&& (63 : Int32), h)
set_option maxHeartbeats 4000000 in
set_option maxRecDepth 100000 in
theorem ct_J6_bitCount_0f7a4 {G : GG} {l : Launch} {v0 : Int32} {h : AH} {y : Int32 × AH} (hf : f_J6_bitCount_0f7a4 G v0 h = some y) : Ct G l yJ6_bitCount_0f7a4 cJ6_bitCount_0f7a4 1 (some .int) 0 0 0 0 [.int v0] h (some (.int y.1), y.2) := by
  refine ct_of (by decide) (Nat.le_of_ble_eq_true rfl) ?_
  intro p e s m args below meth c C hm hr hin
  have C : Cx G cJ6_bitCount_0f7a4 RJ6 p s m args meth c := C
  refine e_lv (lv2 := [(0, .int v0)]) [0] rfl ?_
  unfold f_J6_bitCount_0f7a4 at hf
  refine e_iload_n (pc := 0) C dJ6_bitCount_0f7a4_0 0 rfl rfl ?_
  refine e_iload_n (pc := 1) C dJ6_bitCount_0f7a4_1 0 rfl rfl ?_
  refine e_iconst (v := (1 : Int32)) (pc := 2) C dJ6_bitCount_0f7a4_2 (by decide) ?_
  refine e_iushr (pc := 3) C dJ6_bitCount_0f7a4_3 ?_
  refine e_ldcw (pc := 4) C dJ6_bitCount_0f7a4_4 g1164 ?_
  refine e_iand (pc := 7) C dJ6_bitCount_0f7a4_7 ?_
  refine e_isub (pc := 8) C dJ6_bitCount_0f7a4_8 ?_
  obtain ⟨x1, ex1, hf⟩ := nn_e hf
  refine e_topi ex1 ?_
  refine e_istore_n (pc := 9) (lv2 := [(0, .int x1)]) C hm dJ6_bitCount_0f7a4_9 rfl (by decide) rfl ?_
  refine e_iload_n (pc := 10) C dJ6_bitCount_0f7a4_10 0 rfl rfl ?_
  refine e_ldcw (pc := 11) C dJ6_bitCount_0f7a4_11 g1165 ?_
  refine e_iand (pc := 14) C dJ6_bitCount_0f7a4_14 ?_
  refine e_iload_n (pc := 15) C dJ6_bitCount_0f7a4_15 0 rfl rfl ?_
  refine e_iconst (v := (2 : Int32)) (pc := 16) C dJ6_bitCount_0f7a4_16 (by decide) ?_
  refine e_iushr (pc := 17) C dJ6_bitCount_0f7a4_17 ?_
  refine e_ldcw (pc := 18) C dJ6_bitCount_0f7a4_18 g1165 ?_
  refine e_iand (pc := 21) C dJ6_bitCount_0f7a4_21 ?_
  refine e_iadd (pc := 22) C dJ6_bitCount_0f7a4_22 ?_
  obtain ⟨x2, ex2, hf⟩ := nn_e hf
  refine e_topi ex2 ?_
  refine e_istore_n (pc := 23) (lv2 := [(0, .int x2)]) C hm dJ6_bitCount_0f7a4_23 rfl (by decide) rfl ?_
  refine e_iload_n (pc := 24) C dJ6_bitCount_0f7a4_24 0 rfl rfl ?_
  refine e_iload_n (pc := 25) C dJ6_bitCount_0f7a4_25 0 rfl rfl ?_
  refine e_iconst (v := (4 : Int32)) (pc := 26) C dJ6_bitCount_0f7a4_26 (by decide) ?_
  refine e_iushr (pc := 27) C dJ6_bitCount_0f7a4_27 ?_
  refine e_iadd (pc := 28) C dJ6_bitCount_0f7a4_28 ?_
  refine e_ldcw (pc := 29) C dJ6_bitCount_0f7a4_29 g1166 ?_
  refine e_iand (pc := 32) C dJ6_bitCount_0f7a4_32 ?_
  obtain ⟨x3, ex3, hf⟩ := nn_e hf
  refine e_topi ex3 ?_
  refine e_istore_n (pc := 33) (lv2 := [(0, .int x3)]) C hm dJ6_bitCount_0f7a4_33 rfl (by decide) rfl ?_
  refine e_iload_n (pc := 34) C dJ6_bitCount_0f7a4_34 0 rfl rfl ?_
  refine e_iload_n (pc := 35) C dJ6_bitCount_0f7a4_35 0 rfl rfl ?_
  refine e_bipush (v := (8 : Int32)) (pc := 36) C dJ6_bitCount_0f7a4_36 (by decide) ?_
  refine e_iushr (pc := 38) C dJ6_bitCount_0f7a4_38 ?_
  refine e_iadd (pc := 39) C dJ6_bitCount_0f7a4_39 ?_
  obtain ⟨x4, ex4, hf⟩ := nn_e hf
  refine e_topi ex4 ?_
  refine e_istore_n (pc := 40) (lv2 := [(0, .int x4)]) C hm dJ6_bitCount_0f7a4_40 rfl (by decide) rfl ?_
  refine e_iload_n (pc := 41) C dJ6_bitCount_0f7a4_41 0 rfl rfl ?_
  refine e_iload_n (pc := 42) C dJ6_bitCount_0f7a4_42 0 rfl rfl ?_
  refine e_bipush (v := (16 : Int32)) (pc := 43) C dJ6_bitCount_0f7a4_43 (by decide) ?_
  refine e_iushr (pc := 45) C dJ6_bitCount_0f7a4_45 ?_
  refine e_iadd (pc := 46) C dJ6_bitCount_0f7a4_46 ?_
  obtain ⟨x5, ex5, hf⟩ := nn_e hf
  refine e_topi ex5 ?_
  refine e_istore_n (pc := 47) (lv2 := [(0, .int x5)]) C hm dJ6_bitCount_0f7a4_47 rfl (by decide) rfl ?_
  refine e_iload_n (pc := 48) C dJ6_bitCount_0f7a4_48 0 rfl rfl ?_
  refine e_bipush (v := (63 : Int32)) (pc := 49) C dJ6_bitCount_0f7a4_49 (by decide) ?_
  refine e_iand (pc := 51) C dJ6_bitCount_0f7a4_51 ?_
  obtain rfl := so_e hf
  exact e_iret (pc := 52) C hr dJ6_bitCount_0f7a4_52 (Nat.le_of_ble_eq_true rfl) (Nat.le_of_ble_eq_true rfl)
theorem dJ7_fill_53178_0 : decode cJ7_fill_53178 0 = .ok (.iconst 0, 1) := by decide +kernel
theorem dJ7_fill_53178_1 : decode cJ7_fill_53178 1 = .ok (.istore_n 2, 1) := by decide +kernel
theorem dJ7_fill_53178_2 : decode cJ7_fill_53178 2 = .ok (.aload_n 0, 1) := by decide +kernel
theorem dJ7_fill_53178_3 : decode cJ7_fill_53178 3 = .ok (.arraylength, 1) := by decide +kernel
theorem dJ7_fill_53178_4 : decode cJ7_fill_53178 4 = .ok (.istore_n 3, 1) := by decide +kernel
theorem dJ7_fill_53178_5 : decode cJ7_fill_53178 5 = .ok (.iload_n 2, 1) := by decide +kernel
theorem dJ7_fill_53178_6 : decode cJ7_fill_53178 6 = .ok (.iload_n 3, 1) := by decide +kernel
theorem dJ7_fill_53178_7 : decode cJ7_fill_53178 7 = .ok (.if_icmp .ge 13, 3) := by decide +kernel
theorem dJ7_fill_53178_10 : decode cJ7_fill_53178 10 = .ok (.aload_n 0, 1) := by decide +kernel
theorem dJ7_fill_53178_11 : decode cJ7_fill_53178 11 = .ok (.iload_n 2, 1) := by decide +kernel
theorem dJ7_fill_53178_12 : decode cJ7_fill_53178 12 = .ok (.iload_n 1, 1) := by decide +kernel
theorem dJ7_fill_53178_13 : decode cJ7_fill_53178 13 = .ok (.iastore, 1) := by decide +kernel
theorem dJ7_fill_53178_14 : decode cJ7_fill_53178 14 = .ok (.iinc 2 1, 3) := by decide +kernel
theorem dJ7_fill_53178_17 : decode cJ7_fill_53178 17 = .ok (.goto (-12), 3) := by decide +kernel
theorem dJ7_fill_53178_20 : decode cJ7_fill_53178 20 = .ok (.return_, 1) := by decide +kernel
def F_J7_fill_53178_5 (G : GG) (v0 : Nat) (v1 : Int32) (v3 : Int32) (self_5 : Int32 → AH → Option (AH)) (v2 : Int32) (h : AH) : Option (AH) :=
if v3 ≤ v2 then (some h) else
ck (ixb h v0 .int v2 = true) <|
nn (m_si h v0 v2.toNatClampNeg v1) fun h6 =>
nn (v2 + (1 : Int32)) fun x7 =>
self_5 x7 h6
def f_J7_fill_53178 (G : GG) (v0 : Nat) (v1 : Int32) (h : AH) : Option (AH) :=
ob (alb h v0 .int) fun n1 =>
nn (nI n1) fun x2 =>
lq1 (F_J7_fill_53178_5 G v0 v1 x2 ) bN (0 : Int32) h
set_option maxHeartbeats 4000000 in
set_option maxRecDepth 100000 in
theorem el_J7_fill_53178_5 {G : GG} {p : Program} {l : Launch} {e : Env} {s : State} {m : MethodId} {args : Array Value} {below : List Frame} {meth : Method} {c : Code} {y : AH} (C : Cx G cJ7_fill_53178 RJ7 p s m args meth c) (hm : c.maxLocals = 4) (hr : meth.sig.returnType = none) (hin : meth.name = yJ7_fill_53178.name) {v0 : Nat} {v1 : Int32} {v3 : Int32}  :
    ∀ (n : Nat) (v2 : Int32) (h : AH), lq1 (F_J7_fill_53178_5 G v0 v1 v3) n v2 h = some y → EE G p l e ({ frames := 0, cells := 0, slots := 0, locals := 0 } : Room) s m args below meth c (none, y) 0 0 5 [(0, .ref v0), (1, .int v1), (2, .int v2), (3, .int v3)] [] h 0 0 := by
  intro n
  induction n with
  | zero => intro v2 h hf; exact (no_e hf).elim
  | succ n ih_5 =>
    intro v2 h hf
    have hf : F_J7_fill_53178_5 G v0 v1 v3 (lq1 (F_J7_fill_53178_5 G v0 v1 v3) n) v2 h = some y := hf
    generalize lq1 (F_J7_fill_53178_5 G v0 v1 v3) n = self_5 at hf ih_5
    unfold F_J7_fill_53178_5 at hf
    refine e_iload_n (pc := 5) C dJ7_fill_53178_5 2 rfl rfl ?_
    refine e_iload_n (pc := 6) C dJ7_fill_53178_6 3 rfl rfl ?_
    rcases it_e hf with ⟨c3, hf⟩ | ⟨c3, hf⟩
    · refine e_icmp_ge (pc := 7) (tgt := 20) C dJ7_fill_53178_7 (by decide) (fun _ => ?_) (fun q => absurd c3 q)
      obtain rfl := so_e hf
      exact e_vret (pc := 20) C hr dJ7_fill_53178_20 (Nat.le_of_ble_eq_true rfl) (Nat.le_of_ble_eq_true rfl)
    · refine e_icmp_ge (pc := 7) (tgt := 20) C dJ7_fill_53178_7 (by decide) (fun q => absurd q c3) (fun _ => ?_)
      refine e_aload_n (pc := 10) C dJ7_fill_53178_10 0 rfl rfl ?_
      refine e_iload_n (pc := 11) C dJ7_fill_53178_11 2 rfl rfl ?_
      refine e_iload_n (pc := 12) C dJ7_fill_53178_12 1 rfl rfl ?_
      obtain ⟨q4, hf⟩ := ck_e hf
      obtain ⟨n5, tn5, in5⟩ := ix_e q4
      refine e_iast (pc := 13) C dJ7_fill_53178_13 tn5 in5 ?_
      obtain ⟨h6, eh6, hf⟩ := nn_e hf
      refine e_hp eh6 ?_
      have uh6 : m_t h6 = m_t h := by rw [eh6]; exact rfl
      obtain ⟨x7, ex7, hf⟩ := nn_e hf
      refine e_iinc (pc := 14) (v := x7) (lv2 := [(2, .int x7), (0, .ref v0), (1, .int v1), (3, .int v3)]) C hm dJ7_fill_53178_14 2 rfl (by rw [ex7]; rfl) (by decide) rfl ?_
      refine e_goto (pc := 17) (tgt := 5) C dJ7_fill_53178_17 (by decide) ?_
      refine e_lv (lv2 := [(0, .ref v0), (1, .int v1), (2, .int x7), (3, .int v3)]) [1, 2, 0, 3] rfl ?_
      exact ih_5 x7 h6 hf
set_option maxHeartbeats 4000000 in
set_option maxRecDepth 100000 in
theorem ct_J7_fill_53178 {G : GG} {l : Launch} {v0 : Nat} {v1 : Int32} {h : AH} {y : AH} (hf : f_J7_fill_53178 G v0 v1 h = some y) : Ct G l yJ7_fill_53178 cJ7_fill_53178 4 none 0 0 0 0 [.ref v0, .int v1] h (none, y) := by
  refine ct_of (by decide) (Nat.le_of_ble_eq_true rfl) ?_
  intro p e s m args below meth c C hm hr hin
  have C : Cx G cJ7_fill_53178 RJ7 p s m args meth c := C
  refine e_lv (lv2 := [(0, .ref v0), (1, .int v1)]) [0, 1] rfl ?_
  unfold f_J7_fill_53178 at hf
  refine e_iconst (v := (0 : Int32)) (pc := 0) C dJ7_fill_53178_0 (by decide) ?_
  refine e_istore_n (pc := 1) (lv2 := [(2, .int (0 : Int32)), (0, .ref v0), (1, .int v1)]) C hm dJ7_fill_53178_1 rfl (by decide) rfl ?_
  refine e_aload_n (pc := 2) C dJ7_fill_53178_2 1 rfl rfl ?_
  obtain ⟨n1, en1, hf⟩ := ob_e hf
  refine e_alen (pc := 3) 0 rfl C dJ7_fill_53178_3 (al_e en1) ?_
  obtain ⟨x2, ex2, hf⟩ := nn_e hf
  refine e_topi ex2 ?_
  refine e_istore_n (pc := 4) (lv2 := [(3, .int x2), (2, .int (0 : Int32)), (0, .ref v0), (1, .int v1)]) C hm dJ7_fill_53178_4 rfl (by decide) rfl ?_
  refine e_lv (lv2 := [(0, .ref v0), (1, .int v1), (2, .int (0 : Int32)), (3, .int x2)]) [2, 3, 1, 0] rfl ?_
  exact el_J7_fill_53178_5 C hm hr hin bN (0 : Int32) h hf
theorem dX5_init_0 : decode cX5_init 0 = .ok (.aload_n 0, 1) := by decide +kernel
theorem dX5_init_1 : decode cX5_init 1 = .ok (.invokespecial 1, 3) := by decide +kernel
theorem dX5_init_4 : decode cX5_init 4 = .ok (.aload_n 0, 1) := by decide +kernel
theorem dX5_init_5 : decode cX5_init 5 = .ok (.iconst 0, 1) := by decide +kernel
theorem dX5_init_6 : decode cX5_init 6 = .ok (.putfield 7, 3) := by decide +kernel
theorem dX5_init_9 : decode cX5_init 9 = .ok (.aload_n 0, 1) := by decide +kernel
theorem dX5_init_10 : decode cX5_init 10 = .ok (.iconst 0, 1) := by decide +kernel
theorem dX5_init_11 : decode cX5_init 11 = .ok (.putfield 13, 3) := by decide +kernel
theorem dX5_init_14 : decode cX5_init 14 = .ok (.aload_n 0, 1) := by decide +kernel
theorem dX5_init_15 : decode cX5_init 15 = .ok (.iconst 0, 1) := by decide +kernel
theorem dX5_init_16 : decode cX5_init 16 = .ok (.putfield 16, 3) := by decide +kernel
theorem dX5_init_19 : decode cX5_init 19 = .ok (.aload_n 0, 1) := by decide +kernel
theorem dX5_init_20 : decode cX5_init 20 = .ok (.iconst 0, 1) := by decide +kernel
theorem dX5_init_21 : decode cX5_init 21 = .ok (.putfield 19, 3) := by decide +kernel
theorem dX5_init_24 : decode cX5_init 24 = .ok (.aload_n 0, 1) := by decide +kernel
theorem dX5_init_25 : decode cX5_init 25 = .ok (.iconst 0, 1) := by decide +kernel
theorem dX5_init_26 : decode cX5_init 26 = .ok (.putfield 22, 3) := by decide +kernel
theorem dX5_init_29 : decode cX5_init 29 = .ok (.aload_n 0, 1) := by decide +kernel
theorem dX5_init_30 : decode cX5_init 30 = .ok (.iconst 0, 1) := by decide +kernel
theorem dX5_init_31 : decode cX5_init 31 = .ok (.putfield 25, 3) := by decide +kernel
theorem dX5_init_34 : decode cX5_init 34 = .ok (.aload_n 0, 1) := by decide +kernel
theorem dX5_init_35 : decode cX5_init 35 = .ok (.iconst 0, 1) := by decide +kernel
theorem dX5_init_36 : decode cX5_init 36 = .ok (.putfield 28, 3) := by decide +kernel
theorem dX5_init_39 : decode cX5_init 39 = .ok (.return_, 1) := by decide +kernel
def f_X5_init (G : GG) (v0 : Nat) (h : AH) : Option (AH) :=
ck (m_t h v0 = .inl 5) <|
nn (m_si h v0 0 (0 : Int32)) fun h2 =>
nn (m_si h2 v0 1 (0 : Int32)) fun h3 =>
nn (m_si h3 v0 2 (0 : Int32)) fun h4 =>
nn (m_si h4 v0 3 (0 : Int32)) fun h5 =>
nn (m_si h5 v0 4 (0 : Int32)) fun h6 =>
nn (m_si h6 v0 5 (0 : Int32)) fun h7 =>
nn (m_si h7 v0 6 (0 : Int32)) fun h8 =>
some h8
set_option maxHeartbeats 4000000 in
set_option maxRecDepth 100000 in
theorem ct_X5_init {G : GG} {l : Launch} {v0 : Nat} {h : AH} {y : AH} (hf : f_X5_init G v0 h = some y) : Ct G l yX5_init cX5_init 1 none 1 24 0 0 [.ref v0] h (none, y) := by
  refine ct_of (by decide) (Nat.le_of_ble_eq_true rfl) ?_
  intro p e s m args below meth c C hm hr hin
  have C : Cx G cX5_init RX5 p s m args meth c := C
  refine e_lv (lv2 := [(0, .ref v0)]) [0] rfl ?_
  unfold f_X5_init at hf
  refine e_aload_n (pc := 0) C dX5_init_0 0 rfl rfl ?_
  refine e_objInit (pc := 1) C dX5_init_1 g271 g173 g174 (Nat.le_of_ble_eq_true rfl) (Nat.le_of_ble_eq_true rfl) ?_
  refine e_aload_n (pc := 4) C dX5_init_4 0 rfl rfl ?_
  refine e_iconst (v := (0 : Int32)) (pc := 5) C dX5_init_5 (by decide) ?_
  obtain ⟨t1, hf⟩ := ck_e hf
  refine e_puti (pc := 6) 5 0 C dX5_init_6 (by decide) (by decide) g272 rfl rfl rfl rfl t1 ?_
  obtain ⟨h2, eh2, hf⟩ := nn_e hf
  refine e_hp eh2 ?_
  have uh2 : m_t h2 = m_t h := by rw [eh2]; exact rfl
  refine e_aload_n (pc := 9) C dX5_init_9 0 rfl rfl ?_
  refine e_iconst (v := (0 : Int32)) (pc := 10) C dX5_init_10 (by decide) ?_
  refine e_puti (pc := 11) 5 1 C dX5_init_11 (by decide) (by decide) g275 rfl rfl rfl rfl (e_mt uh2 t1) ?_
  obtain ⟨h3, eh3, hf⟩ := nn_e hf
  refine e_hp eh3 ?_
  have uh3 : m_t h3 = m_t h := by rw [eh3]; exact uh2
  refine e_aload_n (pc := 14) C dX5_init_14 0 rfl rfl ?_
  refine e_iconst (v := (0 : Int32)) (pc := 15) C dX5_init_15 (by decide) ?_
  refine e_puti (pc := 16) 5 2 C dX5_init_16 (by decide) (by decide) g278 rfl rfl rfl rfl (e_mt uh3 t1) ?_
  obtain ⟨h4, eh4, hf⟩ := nn_e hf
  refine e_hp eh4 ?_
  have uh4 : m_t h4 = m_t h := by rw [eh4]; exact uh3
  refine e_aload_n (pc := 19) C dX5_init_19 0 rfl rfl ?_
  refine e_iconst (v := (0 : Int32)) (pc := 20) C dX5_init_20 (by decide) ?_
  refine e_puti (pc := 21) 5 3 C dX5_init_21 (by decide) (by decide) g281 rfl rfl rfl rfl (e_mt uh4 t1) ?_
  obtain ⟨h5, eh5, hf⟩ := nn_e hf
  refine e_hp eh5 ?_
  have uh5 : m_t h5 = m_t h := by rw [eh5]; exact uh4
  refine e_aload_n (pc := 24) C dX5_init_24 0 rfl rfl ?_
  refine e_iconst (v := (0 : Int32)) (pc := 25) C dX5_init_25 (by decide) ?_
  refine e_puti (pc := 26) 5 4 C dX5_init_26 (by decide) (by decide) g286 rfl rfl rfl rfl (e_mt uh5 t1) ?_
  obtain ⟨h6, eh6, hf⟩ := nn_e hf
  refine e_hp eh6 ?_
  have uh6 : m_t h6 = m_t h := by rw [eh6]; exact uh5
  refine e_aload_n (pc := 29) C dX5_init_29 0 rfl rfl ?_
  refine e_iconst (v := (0 : Int32)) (pc := 30) C dX5_init_30 (by decide) ?_
  refine e_puti (pc := 31) 5 5 C dX5_init_31 (by decide) (by decide) g290 rfl rfl rfl rfl (e_mt uh6 t1) ?_
  obtain ⟨h7, eh7, hf⟩ := nn_e hf
  refine e_hp eh7 ?_
  have uh7 : m_t h7 = m_t h := by rw [eh7]; exact uh6
  refine e_aload_n (pc := 34) C dX5_init_34 0 rfl rfl ?_
  refine e_iconst (v := (0 : Int32)) (pc := 35) C dX5_init_35 (by decide) ?_
  refine e_puti (pc := 36) 5 6 C dX5_init_36 (by decide) (by decide) g293 rfl rfl rfl (nz_ok (by decide)) (e_mt uh7 t1) ?_
  obtain ⟨h8, eh8, hf⟩ := nn_e hf
  refine e_hp eh8 ?_
  have uh8 : m_t h8 = m_t h := by rw [eh8]; exact uh7
  obtain rfl := so_e hf
  exact e_vret (pc := 39) C hr dX5_init_39 (Nat.le_of_ble_eq_true rfl) (Nat.le_of_ble_eq_true rfl)
theorem dX8_init_0 : decode cX8_init 0 = .ok (.aload_n 0, 1) := by decide +kernel
theorem dX8_init_1 : decode cX8_init 1 = .ok (.invokespecial 3, 3) := by decide +kernel
theorem dX8_init_4 : decode cX8_init 4 = .ok (.aload_n 0, 1) := by decide +kernel
theorem dX8_init_5 : decode cX8_init 5 = .ok (.sipush 400, 3) := by decide +kernel
theorem dX8_init_8 : decode cX8_init 8 = .ok (.newarray .byte, 2) := by decide +kernel
theorem dX8_init_10 : decode cX8_init 10 = .ok (.putfield 9, 3) := by decide +kernel
theorem dX8_init_13 : decode cX8_init 13 = .ok (.aload_n 0, 1) := by decide +kernel
theorem dX8_init_14 : decode cX8_init 14 = .ok (.iconst 0, 1) := by decide +kernel
theorem dX8_init_15 : decode cX8_init 15 = .ok (.putfield 15, 3) := by decide +kernel
theorem dX8_init_18 : decode cX8_init 18 = .ok (.aload_n 0, 1) := by decide +kernel
theorem dX8_init_19 : decode cX8_init 19 = .ok (.sipush 401, 3) := by decide +kernel
theorem dX8_init_22 : decode cX8_init 22 = .ok (.newarray .int, 2) := by decide +kernel
theorem dX8_init_24 : decode cX8_init 24 = .ok (.putfield 19, 3) := by decide +kernel
theorem dX8_init_27 : decode cX8_init 27 = .ok (.aload_n 0, 1) := by decide +kernel
theorem dX8_init_28 : decode cX8_init 28 = .ok (.sipush 401, 3) := by decide +kernel
theorem dX8_init_31 : decode cX8_init 31 = .ok (.newarray .int, 2) := by decide +kernel
theorem dX8_init_33 : decode cX8_init 33 = .ok (.putfield 23, 3) := by decide +kernel
theorem dX8_init_36 : decode cX8_init 36 = .ok (.aload_n 0, 1) := by decide +kernel
theorem dX8_init_37 : decode cX8_init 37 = .ok (.sipush 401, 3) := by decide +kernel
theorem dX8_init_40 : decode cX8_init 40 = .ok (.newarray .int, 2) := by decide +kernel
theorem dX8_init_42 : decode cX8_init 42 = .ok (.putfield 26, 3) := by decide +kernel
theorem dX8_init_45 : decode cX8_init 45 = .ok (.aload_n 0, 1) := by decide +kernel
theorem dX8_init_46 : decode cX8_init 46 = .ok (.iconst (-1), 1) := by decide +kernel
theorem dX8_init_47 : decode cX8_init 47 = .ok (.putfield 29, 3) := by decide +kernel
theorem dX8_init_50 : decode cX8_init 50 = .ok (.aload_n 0, 1) := by decide +kernel
theorem dX8_init_51 : decode cX8_init 51 = .ok (.iconst 0, 1) := by decide +kernel
theorem dX8_init_52 : decode cX8_init 52 = .ok (.putfield 32, 3) := by decide +kernel
theorem dX8_init_55 : decode cX8_init 55 = .ok (.aload_n 0, 1) := by decide +kernel
theorem dX8_init_56 : decode cX8_init 56 = .ok (.sipush 257, 3) := by decide +kernel
theorem dX8_init_59 : decode cX8_init 59 = .ok (.putfield 35, 3) := by decide +kernel
theorem dX8_init_62 : decode cX8_init 62 = .ok (.aload_n 0, 1) := by decide +kernel
theorem dX8_init_63 : decode cX8_init 63 = .ok (.iconst 0, 1) := by decide +kernel
theorem dX8_init_64 : decode cX8_init 64 = .ok (.putfield 38, 3) := by decide +kernel
theorem dX8_init_67 : decode cX8_init 67 = .ok (.aload_n 0, 1) := by decide +kernel
theorem dX8_init_68 : decode cX8_init 68 = .ok (.iconst 0, 1) := by decide +kernel
theorem dX8_init_69 : decode cX8_init 69 = .ok (.putfield 41, 3) := by decide +kernel
theorem dX8_init_72 : decode cX8_init 72 = .ok (.return_, 1) := by decide +kernel
def f_X8_init (G : GG) (v0 : Nat) (h : AH) : Option (AH) :=
nn (m_n h) fun x1 =>
nn (m_new h (.inr (.byte, 400))) fun h2 =>
ck (m_t h2 v0 = .inl 8) <|
nn (m_sr h2 v0 0 (some x1)) fun h4 =>
nn (m_si h4 v0 1 (0 : Int32)) fun h5 =>
nn (m_n h5) fun x6 =>
nn (m_new h5 (.inr (.int, 401))) fun h7 =>
ck (m_t h7 v0 = .inl 8) <|
nn (m_sr h7 v0 2 (some x6)) fun h9 =>
nn (m_n h9) fun x10 =>
nn (m_new h9 (.inr (.int, 401))) fun h11 =>
ck (m_t h11 v0 = .inl 8) <|
nn (m_sr h11 v0 3 (some x10)) fun h13 =>
nn (m_n h13) fun x14 =>
nn (m_new h13 (.inr (.int, 401))) fun h15 =>
ck (m_t h15 v0 = .inl 8) <|
nn (m_sr h15 v0 4 (some x14)) fun h17 =>
nn (m_si h17 v0 5 (-1 : Int32)) fun h18 =>
nn (m_si h18 v0 6 (0 : Int32)) fun h19 =>
nn (m_si h19 v0 7 (257 : Int32)) fun h20 =>
nn (m_si h20 v0 8 (0 : Int32)) fun h21 =>
nn (m_si h21 v0 9 (0 : Int32)) fun h22 =>
some h22
set_option maxHeartbeats 4000000 in
set_option maxRecDepth 100000 in
theorem ct_X8_init {G : GG} {l : Launch} {v0 : Nat} {h : AH} {y : AH} (hf : f_X8_init G v0 h = some y) : Ct G l yX8_init cX8_init 1 none 1 24 4 1603 [.ref v0] h (none, y) := by
  refine ct_of (by decide) (Nat.le_of_ble_eq_true rfl) ?_
  intro p e s m args below meth c C hm hr hin
  have C : Cx G cX8_init RX8 p s m args meth c := C
  refine e_lv (lv2 := [(0, .ref v0)]) [0] rfl ?_
  unfold f_X8_init at hf
  refine e_aload_n (pc := 0) C dX8_init_0 0 rfl rfl ?_
  refine e_objInit (pc := 1) C dX8_init_1 g180 g173 g174 (Nat.le_of_ble_eq_true rfl) (Nat.le_of_ble_eq_true rfl) ?_
  refine e_aload_n (pc := 4) C dX8_init_4 0 rfl rfl ?_
  refine e_sipush (v := (400 : Int32)) (pc := 5) C dX8_init_5 (by decide) ?_
  refine e_newb (pc := 8) C dX8_init_8 g219 (by decide) (N := 400) (by decide) (by decide) (Nat.le_of_ble_eq_true rfl) (Nat.le_of_ble_eq_true rfl) ?_
  obtain ⟨x1, ex1, hf⟩ := nn_e hf
  refine e_topr ex1 ?_
  obtain ⟨h2, eh2, hf⟩ := nn_e hf
  refine e_hp eh2 ?_
  obtain ⟨t3, hf⟩ := ck_e hf
  refine e_putrF (pc := 10) (x := some x1) 8 0 C hin dX8_init_10 (by decide) (by decide) g181 rfl rfl rfl rfl rfl t3 ?_
  obtain ⟨h4, eh4, hf⟩ := nn_e hf
  refine e_hp eh4 ?_
  have uh4 : m_t h4 = m_t h2 := by rw [eh4]; exact rfl
  refine e_aload_n (pc := 13) C dX8_init_13 0 rfl rfl ?_
  refine e_iconst (v := (0 : Int32)) (pc := 14) C dX8_init_14 (by decide) ?_
  refine e_puti (pc := 15) 8 1 C dX8_init_15 (by decide) (by decide) g182 rfl rfl rfl rfl (e_mt uh4 t3) ?_
  obtain ⟨h5, eh5, hf⟩ := nn_e hf
  refine e_hp eh5 ?_
  have uh5 : m_t h5 = m_t h2 := by rw [eh5]; exact uh4
  refine e_aload_n (pc := 18) C dX8_init_18 0 rfl rfl ?_
  refine e_sipush (v := (401 : Int32)) (pc := 19) C dX8_init_19 (by decide) ?_
  refine e_newi (pc := 22) C dX8_init_22 g220 (by decide) (N := 401) (by decide) (by decide) (Nat.le_of_ble_eq_true rfl) (Nat.le_of_ble_eq_true rfl) ?_
  obtain ⟨x6, ex6, hf⟩ := nn_e hf
  refine e_topr ex6 ?_
  obtain ⟨h7, eh7, hf⟩ := nn_e hf
  refine e_hp eh7 ?_
  obtain ⟨t8, hf⟩ := ck_e hf
  refine e_putrF (pc := 24) (x := some x6) 8 2 C hin dX8_init_24 (by decide) (by decide) g184 rfl rfl rfl rfl rfl t8 ?_
  obtain ⟨h9, eh9, hf⟩ := nn_e hf
  refine e_hp eh9 ?_
  have uh9 : m_t h9 = m_t h7 := by rw [eh9]; exact rfl
  refine e_aload_n (pc := 27) C dX8_init_27 0 rfl rfl ?_
  refine e_sipush (v := (401 : Int32)) (pc := 28) C dX8_init_28 (by decide) ?_
  refine e_newi (pc := 31) C dX8_init_31 g220 (by decide) (N := 401) (by decide) (by decide) (Nat.le_of_ble_eq_true rfl) (Nat.le_of_ble_eq_true rfl) ?_
  obtain ⟨x10, ex10, hf⟩ := nn_e hf
  refine e_topr ex10 ?_
  obtain ⟨h11, eh11, hf⟩ := nn_e hf
  refine e_hp eh11 ?_
  obtain ⟨t12, hf⟩ := ck_e hf
  refine e_putrF (pc := 33) (x := some x10) 8 3 C hin dX8_init_33 (by decide) (by decide) g185 rfl rfl rfl rfl rfl t12 ?_
  obtain ⟨h13, eh13, hf⟩ := nn_e hf
  refine e_hp eh13 ?_
  have uh13 : m_t h13 = m_t h11 := by rw [eh13]; exact rfl
  refine e_aload_n (pc := 36) C dX8_init_36 0 rfl rfl ?_
  refine e_sipush (v := (401 : Int32)) (pc := 37) C dX8_init_37 (by decide) ?_
  refine e_newi (pc := 40) C dX8_init_40 g220 (by decide) (N := 401) (by decide) (by decide) (Nat.le_of_ble_eq_true rfl) (Nat.le_of_ble_eq_true rfl) ?_
  obtain ⟨x14, ex14, hf⟩ := nn_e hf
  refine e_topr ex14 ?_
  obtain ⟨h15, eh15, hf⟩ := nn_e hf
  refine e_hp eh15 ?_
  obtain ⟨t16, hf⟩ := ck_e hf
  refine e_putrF (pc := 42) (x := some x14) 8 4 C hin dX8_init_42 (by decide) (by decide) g186 rfl rfl rfl rfl rfl t16 ?_
  obtain ⟨h17, eh17, hf⟩ := nn_e hf
  refine e_hp eh17 ?_
  have uh17 : m_t h17 = m_t h15 := by rw [eh17]; exact rfl
  refine e_aload_n (pc := 45) C dX8_init_45 0 rfl rfl ?_
  refine e_iconst (v := (-1 : Int32)) (pc := 46) C dX8_init_46 (by decide) ?_
  refine e_puti (pc := 47) 8 5 C dX8_init_47 (by decide) (by decide) g187 rfl rfl rfl rfl (e_mt uh17 t16) ?_
  obtain ⟨h18, eh18, hf⟩ := nn_e hf
  refine e_hp eh18 ?_
  have uh18 : m_t h18 = m_t h15 := by rw [eh18]; exact uh17
  refine e_aload_n (pc := 50) C dX8_init_50 0 rfl rfl ?_
  refine e_iconst (v := (0 : Int32)) (pc := 51) C dX8_init_51 (by decide) ?_
  refine e_puti (pc := 52) 8 6 C dX8_init_52 (by decide) (by decide) g188 rfl rfl rfl rfl (e_mt uh18 t16) ?_
  obtain ⟨h19, eh19, hf⟩ := nn_e hf
  refine e_hp eh19 ?_
  have uh19 : m_t h19 = m_t h15 := by rw [eh19]; exact uh18
  refine e_aload_n (pc := 55) C dX8_init_55 0 rfl rfl ?_
  refine e_sipush (v := (257 : Int32)) (pc := 56) C dX8_init_56 (by decide) ?_
  refine e_puti (pc := 59) 8 7 C dX8_init_59 (by decide) (by decide) g189 rfl rfl rfl rfl (e_mt uh19 t16) ?_
  obtain ⟨h20, eh20, hf⟩ := nn_e hf
  refine e_hp eh20 ?_
  have uh20 : m_t h20 = m_t h15 := by rw [eh20]; exact uh19
  refine e_aload_n (pc := 62) C dX8_init_62 0 rfl rfl ?_
  refine e_iconst (v := (0 : Int32)) (pc := 63) C dX8_init_63 (by decide) ?_
  refine e_puti (pc := 64) 8 8 C dX8_init_64 (by decide) (by decide) g192 rfl rfl rfl rfl (e_mt uh20 t16) ?_
  obtain ⟨h21, eh21, hf⟩ := nn_e hf
  refine e_hp eh21 ?_
  have uh21 : m_t h21 = m_t h15 := by rw [eh21]; exact uh20
  refine e_aload_n (pc := 67) C dX8_init_67 0 rfl rfl ?_
  refine e_iconst (v := (0 : Int32)) (pc := 68) C dX8_init_68 (by decide) ?_
  refine e_puti (pc := 69) 8 9 C dX8_init_69 (by decide) (by decide) g194 rfl rfl rfl rfl (e_mt uh21 t16) ?_
  obtain ⟨h22, eh22, hf⟩ := nn_e hf
  refine e_hp eh22 ?_
  have uh22 : m_t h22 = m_t h15 := by rw [eh22]; exact uh21
  obtain rfl := so_e hf
  exact e_vret (pc := 72) C hr dX8_init_72 (Nat.le_of_ble_eq_true rfl) (Nat.le_of_ble_eq_true rfl)
theorem dX8_append_0 : decode cX8_append 0 = .ok (.bipush 24, 2) := by decide +kernel
theorem dX8_append_2 : decode cX8_append 2 = .ok (.istore_n 2, 1) := by decide +kernel
theorem dX8_append_3 : decode cX8_append 3 = .ok (.iload_n 2, 1) := by decide +kernel
theorem dX8_append_4 : decode cX8_append 4 = .ok (.ifCond .lt 42, 3) := by decide +kernel
theorem dX8_append_7 : decode cX8_append 7 = .ok (.aload_n 0, 1) := by decide +kernel
theorem dX8_append_8 : decode cX8_append 8 = .ok (.getfield 15, 3) := by decide +kernel
theorem dX8_append_11 : decode cX8_append 11 = .ok (.sipush 400, 3) := by decide +kernel
theorem dX8_append_14 : decode cX8_append 14 = .ok (.if_icmp .ge 32, 3) := by decide +kernel
theorem dX8_append_17 : decode cX8_append 17 = .ok (.aload_n 0, 1) := by decide +kernel
theorem dX8_append_18 : decode cX8_append 18 = .ok (.getfield 9, 3) := by decide +kernel
theorem dX8_append_21 : decode cX8_append 21 = .ok (.aload_n 0, 1) := by decide +kernel
theorem dX8_append_22 : decode cX8_append 22 = .ok (.getfield 15, 3) := by decide +kernel
theorem dX8_append_25 : decode cX8_append 25 = .ok (.iload_n 1, 1) := by decide +kernel
theorem dX8_append_26 : decode cX8_append 26 = .ok (.iload_n 2, 1) := by decide +kernel
theorem dX8_append_27 : decode cX8_append 27 = .ok (.ishr, 1) := by decide +kernel
theorem dX8_append_28 : decode cX8_append 28 = .ok (.i2b, 1) := by decide +kernel
theorem dX8_append_29 : decode cX8_append 29 = .ok (.bastore, 1) := by decide +kernel
theorem dX8_append_30 : decode cX8_append 30 = .ok (.aload_n 0, 1) := by decide +kernel
theorem dX8_append_31 : decode cX8_append 31 = .ok (.dup, 1) := by decide +kernel
theorem dX8_append_32 : decode cX8_append 32 = .ok (.getfield 15, 3) := by decide +kernel
theorem dX8_append_35 : decode cX8_append 35 = .ok (.iconst 1, 1) := by decide +kernel
theorem dX8_append_36 : decode cX8_append 36 = .ok (.iadd, 1) := by decide +kernel
theorem dX8_append_37 : decode cX8_append 37 = .ok (.putfield 15, 3) := by decide +kernel
theorem dX8_append_40 : decode cX8_append 40 = .ok (.iinc 2 (-8), 3) := by decide +kernel
theorem dX8_append_43 : decode cX8_append 43 = .ok (.goto (-40), 3) := by decide +kernel
theorem dX8_append_46 : decode cX8_append 46 = .ok (.return_, 1) := by decide +kernel
def F_X8_append_3 (G : GG) (v0 : Nat) (v1 : Int32) (self_3 : Int32 → AH → Option (AH)) (v2 : Int32) (h : AH) : Option (AH) :=
if v2 < 0 then (some h) else
ck (m_t h v0 = .inl 8) <|
if (400 : Int32) ≤ (m_i h v0 1) then (some h) else
ob (m_r h v0 0) fun b4 =>
ck (ixb h b4 .byte (m_i h v0 1) = true) <|
nn (m_si h b4 (m_i h v0 1).toNatClampNeg ((v1 >>> (v2 &&& 31)).toInt8.toInt32).toInt8.toInt32) fun h7 =>
nn (m_si h7 v0 1 ((m_i h7 v0 1) + (1 : Int32))) fun h8 =>
nn (v2 + (-8 : Int32)) fun x9 =>
self_3 x9 h8
def f_X8_append (G : GG) (v0 : Nat) (v1 : Int32) (h : AH) : Option (AH) :=
lq1 (F_X8_append_3 G v0 v1 ) bN (24 : Int32) h
set_option maxHeartbeats 4000000 in
set_option maxRecDepth 100000 in
theorem el_X8_append_3 {G : GG} {p : Program} {l : Launch} {e : Env} {s : State} {m : MethodId} {args : Array Value} {below : List Frame} {meth : Method} {c : Code} {y : AH} (C : Cx G cX8_append RX8 p s m args meth c) (hm : c.maxLocals = 3) (hr : meth.sig.returnType = none) (hin : meth.name = yX8_append.name) {v0 : Nat} {v1 : Int32}  :
    ∀ (n : Nat) (v2 : Int32) (h : AH), lq1 (F_X8_append_3 G v0 v1) n v2 h = some y → EE G p l e ({ frames := 0, cells := 0, slots := 0, locals := 0 } : Room) s m args below meth c (none, y) 0 0 3 [(0, .ref v0), (1, .int v1), (2, .int v2)] [] h 0 0 := by
  intro n
  induction n with
  | zero => intro v2 h hf; exact (no_e hf).elim
  | succ n ih_3 =>
    intro v2 h hf
    have hf : F_X8_append_3 G v0 v1 (lq1 (F_X8_append_3 G v0 v1) n) v2 h = some y := hf
    generalize lq1 (F_X8_append_3 G v0 v1) n = self_3 at hf ih_3
    unfold F_X8_append_3 at hf
    refine e_iload_n (pc := 3) C dX8_append_3 2 rfl rfl ?_
    rcases it_e hf with ⟨c1, hf⟩ | ⟨c1, hf⟩
    · refine e_if_lt (pc := 4) (tgt := 46) C dX8_append_4 (by decide) (fun _ => ?_) (fun q => absurd c1 q)
      obtain rfl := so_e hf
      exact e_vret (pc := 46) C hr dX8_append_46 (Nat.le_of_ble_eq_true rfl) (Nat.le_of_ble_eq_true rfl)
    · refine e_if_lt (pc := 4) (tgt := 46) C dX8_append_4 (by decide) (fun q => absurd q c1) (fun _ => ?_)
      refine e_aload_n (pc := 7) C dX8_append_7 0 rfl rfl ?_
      obtain ⟨t2, hf⟩ := ck_e hf
      refine e_geti (pc := 8) 8 1 C dX8_append_8 (by decide) (by decide) g182 rfl t2 ?_
      refine e_sipush (v := (400 : Int32)) (pc := 11) C dX8_append_11 (by decide) ?_
      rcases it_e hf with ⟨c3, hf⟩ | ⟨c3, hf⟩
      · refine e_icmp_ge (pc := 14) (tgt := 46) C dX8_append_14 (by decide) (fun _ => ?_) (fun q => absurd c3 q)
        obtain rfl := so_e hf
        exact e_vret (pc := 46) C hr dX8_append_46 (Nat.le_of_ble_eq_true rfl) (Nat.le_of_ble_eq_true rfl)
      · refine e_icmp_ge (pc := 14) (tgt := 46) C dX8_append_14 (by decide) (fun q => absurd q c3) (fun _ => ?_)
        refine e_aload_n (pc := 17) C dX8_append_17 0 rfl rfl ?_
        refine e_getr (pc := 18) 8 0 C dX8_append_18 (by decide) (by decide) g181 rfl t2 ?_
        obtain ⟨b4, eb4, hf⟩ := ob_e hf
        refine e_rf eb4 ?_
        refine e_aload_n (pc := 21) C dX8_append_21 0 rfl rfl ?_
        refine e_geti (pc := 22) 8 1 C dX8_append_22 (by decide) (by decide) g182 rfl t2 ?_
        refine e_iload_n (pc := 25) C dX8_append_25 1 rfl rfl ?_
        refine e_iload_n (pc := 26) C dX8_append_26 2 rfl rfl ?_
        refine e_ishr (pc := 27) C dX8_append_27 ?_
        refine e_i2b (pc := 28) C dX8_append_28 ?_
        obtain ⟨q5, hf⟩ := ck_e hf
        obtain ⟨n6, tn6, in6⟩ := ix_e q5
        refine e_bast (pc := 29) C dX8_append_29 tn6 in6 ?_
        obtain ⟨h7, eh7, hf⟩ := nn_e hf
        refine e_hp eh7 ?_
        have uh7 : m_t h7 = m_t h := by rw [eh7]; exact rfl
        refine e_aload_n (pc := 30) C dX8_append_30 0 rfl rfl ?_
        refine e_dup (pc := 31) C dX8_append_31 rfl ?_
        refine e_geti (pc := 32) 8 1 C dX8_append_32 (by decide) (by decide) g182 rfl (e_mt uh7 t2) ?_
        refine e_iconst (v := (1 : Int32)) (pc := 35) C dX8_append_35 (by decide) ?_
        refine e_iadd (pc := 36) C dX8_append_36 ?_
        refine e_puti (pc := 37) 8 1 C dX8_append_37 (by decide) (by decide) g182 rfl rfl rfl rfl (e_mt uh7 t2) ?_
        obtain ⟨h8, eh8, hf⟩ := nn_e hf
        refine e_hp eh8 ?_
        have uh8 : m_t h8 = m_t h := by rw [eh8]; exact uh7
        obtain ⟨x9, ex9, hf⟩ := nn_e hf
        refine e_iinc (pc := 40) (v := x9) (lv2 := [(2, .int x9), (0, .ref v0), (1, .int v1)]) C hm dX8_append_40 2 rfl (by rw [ex9]; rfl) (by decide) rfl ?_
        refine e_goto (pc := 43) (tgt := 3) C dX8_append_43 (by decide) ?_
        refine e_lv (lv2 := [(0, .ref v0), (1, .int v1), (2, .int x9)]) [1, 2, 0] rfl ?_
        exact ih_3 x9 h8 hf
set_option maxHeartbeats 4000000 in
set_option maxRecDepth 100000 in
theorem ct_X8_append {G : GG} {l : Launch} {v0 : Nat} {v1 : Int32} {h : AH} {y : AH} (hf : f_X8_append G v0 v1 h = some y) : Ct G l yX8_append cX8_append 3 none 0 0 0 0 [.ref v0, .int v1] h (none, y) := by
  refine ct_of (by decide) (Nat.le_of_ble_eq_true rfl) ?_
  intro p e s m args below meth c C hm hr hin
  have C : Cx G cX8_append RX8 p s m args meth c := C
  refine e_lv (lv2 := [(0, .ref v0), (1, .int v1)]) [0, 1] rfl ?_
  unfold f_X8_append at hf
  refine e_bipush (v := (24 : Int32)) (pc := 0) C dX8_append_0 (by decide) ?_
  refine e_istore_n (pc := 2) (lv2 := [(2, .int (24 : Int32)), (0, .ref v0), (1, .int v1)]) C hm dX8_append_2 rfl (by decide) rfl ?_
  refine e_lv (lv2 := [(0, .ref v0), (1, .int v1), (2, .int (24 : Int32))]) [1, 2, 0] rfl ?_
  exact el_X8_append_3 C hm hr hin bN (24 : Int32) h hf
theorem dX8_byteAt_0 : decode cX8_byteAt 0 = .ok (.iload_n 1, 1) := by decide +kernel
theorem dX8_byteAt_1 : decode cX8_byteAt 1 = .ok (.ifCond .lt 31, 3) := by decide +kernel
theorem dX8_byteAt_4 : decode cX8_byteAt 4 = .ok (.iload_n 1, 1) := by decide +kernel
theorem dX8_byteAt_5 : decode cX8_byteAt 5 = .ok (.aload_n 0, 1) := by decide +kernel
theorem dX8_byteAt_6 : decode cX8_byteAt 6 = .ok (.getfield 15, 3) := by decide +kernel
theorem dX8_byteAt_9 : decode cX8_byteAt 9 = .ok (.if_icmp .ge 23, 3) := by decide +kernel
theorem dX8_byteAt_12 : decode cX8_byteAt 12 = .ok (.iload_n 1, 1) := by decide +kernel
theorem dX8_byteAt_13 : decode cX8_byteAt 13 = .ok (.sipush 400, 3) := by decide +kernel
theorem dX8_byteAt_16 : decode cX8_byteAt 16 = .ok (.if_icmp .ge 16, 3) := by decide +kernel
theorem dX8_byteAt_19 : decode cX8_byteAt 19 = .ok (.aload_n 0, 1) := by decide +kernel
theorem dX8_byteAt_20 : decode cX8_byteAt 20 = .ok (.getfield 9, 3) := by decide +kernel
theorem dX8_byteAt_23 : decode cX8_byteAt 23 = .ok (.iload_n 1, 1) := by decide +kernel
theorem dX8_byteAt_24 : decode cX8_byteAt 24 = .ok (.baload, 1) := by decide +kernel
theorem dX8_byteAt_25 : decode cX8_byteAt 25 = .ok (.sipush 255, 3) := by decide +kernel
theorem dX8_byteAt_28 : decode cX8_byteAt 28 = .ok (.iand, 1) := by decide +kernel
theorem dX8_byteAt_29 : decode cX8_byteAt 29 = .ok (.goto 6, 3) := by decide +kernel
theorem dX8_byteAt_32 : decode cX8_byteAt 32 = .ok (.sipush 257, 3) := by decide +kernel
theorem dX8_byteAt_35 : decode cX8_byteAt 35 = .ok (.ireturn, 1) := by decide +kernel
def f_X8_byteAt (G : GG) (v0 : Nat) (v1 : Int32) (h : AH) : Option (Int32 × AH) :=
if v1 < 0 then (some ((257 : Int32), h)) else
ck (m_t h v0 = .inl 8) <|
if (m_i h v0 1) ≤ v1 then (some ((257 : Int32), h)) else
if (400 : Int32) ≤ v1 then (some ((257 : Int32), h)) else
ob (m_r h v0 0) fun b5 =>
ck (ixb h b5 .byte v1 = true) <|
some ((m_i h b5 v1.toNatClampNeg) &&& (255 : Int32), h)
set_option maxHeartbeats 4000000 in
set_option maxRecDepth 100000 in
theorem ct_X8_byteAt {G : GG} {l : Launch} {v0 : Nat} {v1 : Int32} {h : AH} {y : Int32 × AH} (hf : f_X8_byteAt G v0 v1 h = some y) : Ct G l yX8_byteAt cX8_byteAt 2 (some .int) 0 0 0 0 [.ref v0, .int v1] h (some (.int y.1), y.2) := by
  refine ct_of (by decide) (Nat.le_of_ble_eq_true rfl) ?_
  intro p e s m args below meth c C hm hr hin
  have C : Cx G cX8_byteAt RX8 p s m args meth c := C
  refine e_lv (lv2 := [(0, .ref v0), (1, .int v1)]) [0, 1] rfl ?_
  unfold f_X8_byteAt at hf
  refine e_iload_n (pc := 0) C dX8_byteAt_0 1 rfl rfl ?_
  rcases it_e hf with ⟨c1, hf⟩ | ⟨c1, hf⟩
  · refine e_if_lt (pc := 1) (tgt := 32) C dX8_byteAt_1 (by decide) (fun _ => ?_) (fun q => absurd c1 q)
    refine e_sipush (v := (257 : Int32)) (pc := 32) C dX8_byteAt_32 (by decide) ?_
    obtain rfl := so_e hf
    exact e_iret (pc := 35) C hr dX8_byteAt_35 (Nat.le_of_ble_eq_true rfl) (Nat.le_of_ble_eq_true rfl)
  · refine e_if_lt (pc := 1) (tgt := 32) C dX8_byteAt_1 (by decide) (fun q => absurd q c1) (fun _ => ?_)
    refine e_iload_n (pc := 4) C dX8_byteAt_4 1 rfl rfl ?_
    refine e_aload_n (pc := 5) C dX8_byteAt_5 0 rfl rfl ?_
    obtain ⟨t2, hf⟩ := ck_e hf
    refine e_geti (pc := 6) 8 1 C dX8_byteAt_6 (by decide) (by decide) g182 rfl t2 ?_
    rcases it_e hf with ⟨c3, hf⟩ | ⟨c3, hf⟩
    · refine e_icmp_ge (pc := 9) (tgt := 32) C dX8_byteAt_9 (by decide) (fun _ => ?_) (fun q => absurd c3 q)
      refine e_sipush (v := (257 : Int32)) (pc := 32) C dX8_byteAt_32 (by decide) ?_
      obtain rfl := so_e hf
      exact e_iret (pc := 35) C hr dX8_byteAt_35 (Nat.le_of_ble_eq_true rfl) (Nat.le_of_ble_eq_true rfl)
    · refine e_icmp_ge (pc := 9) (tgt := 32) C dX8_byteAt_9 (by decide) (fun q => absurd q c3) (fun _ => ?_)
      refine e_iload_n (pc := 12) C dX8_byteAt_12 1 rfl rfl ?_
      refine e_sipush (v := (400 : Int32)) (pc := 13) C dX8_byteAt_13 (by decide) ?_
      rcases it_e hf with ⟨c4, hf⟩ | ⟨c4, hf⟩
      · refine e_icmp_ge (pc := 16) (tgt := 32) C dX8_byteAt_16 (by decide) (fun _ => ?_) (fun q => absurd c4 q)
        refine e_sipush (v := (257 : Int32)) (pc := 32) C dX8_byteAt_32 (by decide) ?_
        obtain rfl := so_e hf
        exact e_iret (pc := 35) C hr dX8_byteAt_35 (Nat.le_of_ble_eq_true rfl) (Nat.le_of_ble_eq_true rfl)
      · refine e_icmp_ge (pc := 16) (tgt := 32) C dX8_byteAt_16 (by decide) (fun q => absurd q c4) (fun _ => ?_)
        refine e_aload_n (pc := 19) C dX8_byteAt_19 0 rfl rfl ?_
        refine e_getr (pc := 20) 8 0 C dX8_byteAt_20 (by decide) (by decide) g181 rfl t2 ?_
        obtain ⟨b5, eb5, hf⟩ := ob_e hf
        refine e_rf eb5 ?_
        refine e_iload_n (pc := 23) C dX8_byteAt_23 1 rfl rfl ?_
        obtain ⟨q6, hf⟩ := ck_e hf
        obtain ⟨n7, tn7, in7⟩ := ix_e q6
        refine e_bald (pc := 24) C dX8_byteAt_24 tn7 in7 ?_
        refine e_sipush (v := (255 : Int32)) (pc := 25) C dX8_byteAt_25 (by decide) ?_
        refine e_iand (pc := 28) C dX8_byteAt_28 ?_
        refine e_goto (pc := 29) (tgt := 35) C dX8_byteAt_29 (by decide) ?_
        obtain rfl := so_e hf
        exact e_iret (pc := 35) C hr dX8_byteAt_35 (Nat.le_of_ble_eq_true rfl) (Nat.le_of_ble_eq_true rfl)
theorem dX8_isDigit_0 : decode cX8_isDigit 0 = .ok (.iload_n 0, 1) := by decide +kernel
theorem dX8_isDigit_1 : decode cX8_isDigit 1 = .ok (.bipush 48, 2) := by decide +kernel
theorem dX8_isDigit_3 : decode cX8_isDigit 3 = .ok (.if_icmp .lt 13, 3) := by decide +kernel
theorem dX8_isDigit_6 : decode cX8_isDigit 6 = .ok (.iload_n 0, 1) := by decide +kernel
theorem dX8_isDigit_7 : decode cX8_isDigit 7 = .ok (.bipush 57, 2) := by decide +kernel
theorem dX8_isDigit_9 : decode cX8_isDigit 9 = .ok (.if_icmp .gt 7, 3) := by decide +kernel
theorem dX8_isDigit_12 : decode cX8_isDigit 12 = .ok (.iconst 1, 1) := by decide +kernel
theorem dX8_isDigit_13 : decode cX8_isDigit 13 = .ok (.goto 4, 3) := by decide +kernel
theorem dX8_isDigit_16 : decode cX8_isDigit 16 = .ok (.iconst 0, 1) := by decide +kernel
theorem dX8_isDigit_17 : decode cX8_isDigit 17 = .ok (.ireturn, 1) := by decide +kernel
def f_X8_isDigit (G : GG) (v0 : Int32) (h : AH) : Option (Int32 × AH) :=
if v0 < (48 : Int32) then (some ((0 : Int32), h)) else
if (57 : Int32) < v0 then (some ((0 : Int32), h)) else
some ((1 : Int32), h)
set_option maxHeartbeats 4000000 in
set_option maxRecDepth 100000 in
theorem ct_X8_isDigit {G : GG} {l : Launch} {v0 : Int32} {h : AH} {y : Int32 × AH} (hf : f_X8_isDigit G v0 h = some y) : Ct G l yX8_isDigit cX8_isDigit 1 (some .boolean) 0 0 0 0 [.int v0] h (some (.int y.1), y.2) := by
  refine ct_of (by decide) (Nat.le_of_ble_eq_true rfl) ?_
  intro p e s m args below meth c C hm hr hin
  have C : Cx G cX8_isDigit RX8 p s m args meth c := C
  refine e_lv (lv2 := [(0, .int v0)]) [0] rfl ?_
  unfold f_X8_isDigit at hf
  refine e_iload_n (pc := 0) C dX8_isDigit_0 0 rfl rfl ?_
  refine e_bipush (v := (48 : Int32)) (pc := 1) C dX8_isDigit_1 (by decide) ?_
  rcases it_e hf with ⟨c1, hf⟩ | ⟨c1, hf⟩
  · refine e_icmp_lt (pc := 3) (tgt := 16) C dX8_isDigit_3 (by decide) (fun _ => ?_) (fun q => absurd c1 q)
    refine e_iconst (v := (0 : Int32)) (pc := 16) C dX8_isDigit_16 (by decide) ?_
    obtain rfl := so_e hf
    exact e_zret (pc := 17) (v := (0 : Int32)) C hr (nz_ok (by decide)) dX8_isDigit_17 (Nat.le_of_ble_eq_true rfl) (Nat.le_of_ble_eq_true rfl)
  · refine e_icmp_lt (pc := 3) (tgt := 16) C dX8_isDigit_3 (by decide) (fun q => absurd q c1) (fun _ => ?_)
    refine e_iload_n (pc := 6) C dX8_isDigit_6 0 rfl rfl ?_
    refine e_bipush (v := (57 : Int32)) (pc := 7) C dX8_isDigit_7 (by decide) ?_
    rcases it_e hf with ⟨c2, hf⟩ | ⟨c2, hf⟩
    · refine e_icmp_gt (pc := 9) (tgt := 16) C dX8_isDigit_9 (by decide) (fun _ => ?_) (fun q => absurd c2 q)
      refine e_iconst (v := (0 : Int32)) (pc := 16) C dX8_isDigit_16 (by decide) ?_
      obtain rfl := so_e hf
      exact e_zret (pc := 17) (v := (0 : Int32)) C hr (nz_ok (by decide)) dX8_isDigit_17 (Nat.le_of_ble_eq_true rfl) (Nat.le_of_ble_eq_true rfl)
    · refine e_icmp_gt (pc := 9) (tgt := 16) C dX8_isDigit_9 (by decide) (fun q => absurd q c2) (fun _ => ?_)
      refine e_iconst (v := (1 : Int32)) (pc := 12) C dX8_isDigit_12 (by decide) ?_
      refine e_goto (pc := 13) (tgt := 17) C dX8_isDigit_13 (by decide) ?_
      obtain rfl := so_e hf
      exact e_zret (pc := 17) (v := (1 : Int32)) C hr (nz_ok (by decide)) dX8_isDigit_17 (Nat.le_of_ble_eq_true rfl) (Nat.le_of_ble_eq_true rfl)
theorem dX8_put_0 : decode cX8_put 0 = .ok (.aload_n 0, 1) := by decide +kernel
theorem dX8_put_1 : decode cX8_put 1 = .ok (.getfield 29, 3) := by decide +kernel
theorem dX8_put_4 : decode cX8_put 4 = .ok (.sipush 400, 3) := by decide +kernel
theorem dX8_put_7 : decode cX8_put 7 = .ok (.if_icmp .ge 43, 3) := by decide +kernel
theorem dX8_put_10 : decode cX8_put 10 = .ok (.aload_n 0, 1) := by decide +kernel
theorem dX8_put_11 : decode cX8_put 11 = .ok (.dup, 1) := by decide +kernel
theorem dX8_put_12 : decode cX8_put 12 = .ok (.getfield 29, 3) := by decide +kernel
theorem dX8_put_15 : decode cX8_put 15 = .ok (.iconst 1, 1) := by decide +kernel
theorem dX8_put_16 : decode cX8_put 16 = .ok (.iadd, 1) := by decide +kernel
theorem dX8_put_17 : decode cX8_put 17 = .ok (.putfield 29, 3) := by decide +kernel
theorem dX8_put_20 : decode cX8_put 20 = .ok (.aload_n 0, 1) := by decide +kernel
theorem dX8_put_21 : decode cX8_put 21 = .ok (.getfield 19, 3) := by decide +kernel
theorem dX8_put_24 : decode cX8_put 24 = .ok (.aload_n 0, 1) := by decide +kernel
theorem dX8_put_25 : decode cX8_put 25 = .ok (.getfield 29, 3) := by decide +kernel
theorem dX8_put_28 : decode cX8_put 28 = .ok (.iload_n 1, 1) := by decide +kernel
theorem dX8_put_29 : decode cX8_put 29 = .ok (.iastore, 1) := by decide +kernel
theorem dX8_put_30 : decode cX8_put 30 = .ok (.aload_n 0, 1) := by decide +kernel
theorem dX8_put_31 : decode cX8_put 31 = .ok (.getfield 23, 3) := by decide +kernel
theorem dX8_put_34 : decode cX8_put 34 = .ok (.aload_n 0, 1) := by decide +kernel
theorem dX8_put_35 : decode cX8_put 35 = .ok (.getfield 29, 3) := by decide +kernel
theorem dX8_put_38 : decode cX8_put 38 = .ok (.iload_n 2, 1) := by decide +kernel
theorem dX8_put_39 : decode cX8_put 39 = .ok (.iastore, 1) := by decide +kernel
theorem dX8_put_40 : decode cX8_put 40 = .ok (.aload_n 0, 1) := by decide +kernel
theorem dX8_put_41 : decode cX8_put 41 = .ok (.getfield 26, 3) := by decide +kernel
theorem dX8_put_44 : decode cX8_put 44 = .ok (.aload_n 0, 1) := by decide +kernel
theorem dX8_put_45 : decode cX8_put 45 = .ok (.getfield 29, 3) := by decide +kernel
theorem dX8_put_48 : decode cX8_put 48 = .ok (.iconst 0, 1) := by decide +kernel
theorem dX8_put_49 : decode cX8_put 49 = .ok (.iastore, 1) := by decide +kernel
theorem dX8_put_50 : decode cX8_put 50 = .ok (.return_, 1) := by decide +kernel
def f_X8_put (G : GG) (v0 : Nat) (v1 : Int32) (v2 : Int32) (h : AH) : Option (AH) :=
ck (m_t h v0 = .inl 8) <|
if (400 : Int32) ≤ (m_i h v0 5) then (some h) else
nn (m_si h v0 5 ((m_i h v0 5) + (1 : Int32))) fun h3 =>
ob (m_r h3 v0 2) fun b4 =>
ck (ixb h3 b4 .int (m_i h3 v0 5) = true) <|
nn (m_si h3 b4 (m_i h3 v0 5).toNatClampNeg v1) fun h7 =>
ob (m_r h7 v0 3) fun b8 =>
ck (ixb h7 b8 .int (m_i h7 v0 5) = true) <|
nn (m_si h7 b8 (m_i h7 v0 5).toNatClampNeg v2) fun h11 =>
ob (m_r h11 v0 4) fun b12 =>
ck (ixb h11 b12 .int (m_i h11 v0 5) = true) <|
nn (m_si h11 b12 (m_i h11 v0 5).toNatClampNeg (0 : Int32)) fun h15 =>
some h15
set_option maxHeartbeats 4000000 in
set_option maxRecDepth 100000 in
theorem ct_X8_put {G : GG} {l : Launch} {v0 : Nat} {v1 : Int32} {v2 : Int32} {h : AH} {y : AH} (hf : f_X8_put G v0 v1 v2 h = some y) : Ct G l yX8_put cX8_put 3 none 0 0 0 0 [.ref v0, .int v1, .int v2] h (none, y) := by
  refine ct_of (by decide) (Nat.le_of_ble_eq_true rfl) ?_
  intro p e s m args below meth c C hm hr hin
  have C : Cx G cX8_put RX8 p s m args meth c := C
  refine e_lv (lv2 := [(0, .ref v0), (1, .int v1), (2, .int v2)]) [0, 1, 2] rfl ?_
  unfold f_X8_put at hf
  refine e_aload_n (pc := 0) C dX8_put_0 0 rfl rfl ?_
  obtain ⟨t1, hf⟩ := ck_e hf
  refine e_geti (pc := 1) 8 5 C dX8_put_1 (by decide) (by decide) g187 rfl t1 ?_
  refine e_sipush (v := (400 : Int32)) (pc := 4) C dX8_put_4 (by decide) ?_
  rcases it_e hf with ⟨c2, hf⟩ | ⟨c2, hf⟩
  · refine e_icmp_ge (pc := 7) (tgt := 50) C dX8_put_7 (by decide) (fun _ => ?_) (fun q => absurd c2 q)
    obtain rfl := so_e hf
    exact e_vret (pc := 50) C hr dX8_put_50 (Nat.le_of_ble_eq_true rfl) (Nat.le_of_ble_eq_true rfl)
  · refine e_icmp_ge (pc := 7) (tgt := 50) C dX8_put_7 (by decide) (fun q => absurd q c2) (fun _ => ?_)
    refine e_aload_n (pc := 10) C dX8_put_10 0 rfl rfl ?_
    refine e_dup (pc := 11) C dX8_put_11 rfl ?_
    refine e_geti (pc := 12) 8 5 C dX8_put_12 (by decide) (by decide) g187 rfl t1 ?_
    refine e_iconst (v := (1 : Int32)) (pc := 15) C dX8_put_15 (by decide) ?_
    refine e_iadd (pc := 16) C dX8_put_16 ?_
    refine e_puti (pc := 17) 8 5 C dX8_put_17 (by decide) (by decide) g187 rfl rfl rfl rfl t1 ?_
    obtain ⟨h3, eh3, hf⟩ := nn_e hf
    refine e_hp eh3 ?_
    have uh3 : m_t h3 = m_t h := by rw [eh3]; exact rfl
    refine e_aload_n (pc := 20) C dX8_put_20 0 rfl rfl ?_
    refine e_getr (pc := 21) 8 2 C dX8_put_21 (by decide) (by decide) g184 rfl (e_mt uh3 t1) ?_
    obtain ⟨b4, eb4, hf⟩ := ob_e hf
    refine e_rf eb4 ?_
    refine e_aload_n (pc := 24) C dX8_put_24 0 rfl rfl ?_
    refine e_geti (pc := 25) 8 5 C dX8_put_25 (by decide) (by decide) g187 rfl (e_mt uh3 t1) ?_
    refine e_iload_n (pc := 28) C dX8_put_28 1 rfl rfl ?_
    obtain ⟨q5, hf⟩ := ck_e hf
    obtain ⟨n6, tn6, in6⟩ := ix_e q5
    refine e_iast (pc := 29) C dX8_put_29 tn6 in6 ?_
    obtain ⟨h7, eh7, hf⟩ := nn_e hf
    refine e_hp eh7 ?_
    have uh7 : m_t h7 = m_t h := by rw [eh7]; exact uh3
    refine e_aload_n (pc := 30) C dX8_put_30 0 rfl rfl ?_
    refine e_getr (pc := 31) 8 3 C dX8_put_31 (by decide) (by decide) g185 rfl (e_mt uh7 t1) ?_
    obtain ⟨b8, eb8, hf⟩ := ob_e hf
    refine e_rf eb8 ?_
    refine e_aload_n (pc := 34) C dX8_put_34 0 rfl rfl ?_
    refine e_geti (pc := 35) 8 5 C dX8_put_35 (by decide) (by decide) g187 rfl (e_mt uh7 t1) ?_
    refine e_iload_n (pc := 38) C dX8_put_38 2 rfl rfl ?_
    obtain ⟨q9, hf⟩ := ck_e hf
    obtain ⟨n10, tn10, in10⟩ := ix_e q9
    refine e_iast (pc := 39) C dX8_put_39 tn10 in10 ?_
    obtain ⟨h11, eh11, hf⟩ := nn_e hf
    refine e_hp eh11 ?_
    have uh11 : m_t h11 = m_t h := by rw [eh11]; exact uh7
    refine e_aload_n (pc := 40) C dX8_put_40 0 rfl rfl ?_
    refine e_getr (pc := 41) 8 4 C dX8_put_41 (by decide) (by decide) g186 rfl (e_mt uh11 t1) ?_
    obtain ⟨b12, eb12, hf⟩ := ob_e hf
    refine e_rf eb12 ?_
    refine e_aload_n (pc := 44) C dX8_put_44 0 rfl rfl ?_
    refine e_geti (pc := 45) 8 5 C dX8_put_45 (by decide) (by decide) g187 rfl (e_mt uh11 t1) ?_
    refine e_iconst (v := (0 : Int32)) (pc := 48) C dX8_put_48 (by decide) ?_
    obtain ⟨q13, hf⟩ := ck_e hf
    obtain ⟨n14, tn14, in14⟩ := ix_e q13
    refine e_iast (pc := 49) C dX8_put_49 tn14 in14 ?_
    obtain ⟨h15, eh15, hf⟩ := nn_e hf
    refine e_hp eh15 ?_
    have uh15 : m_t h15 = m_t h := by rw [eh15]; exact uh11
    obtain rfl := so_e hf
    exact e_vret (pc := 50) C hr dX8_put_50 (Nat.le_of_ble_eq_true rfl) (Nat.le_of_ble_eq_true rfl)
theorem dX8_isLetter_0 : decode cX8_isLetter 0 = .ok (.iload_n 0, 1) := by decide +kernel
theorem dX8_isLetter_1 : decode cX8_isLetter 1 = .ok (.bipush 97, 2) := by decide +kernel
theorem dX8_isLetter_3 : decode cX8_isLetter 3 = .ok (.if_icmp .lt 13, 3) := by decide +kernel
theorem dX8_isLetter_6 : decode cX8_isLetter 6 = .ok (.iload_n 0, 1) := by decide +kernel
theorem dX8_isLetter_7 : decode cX8_isLetter 7 = .ok (.bipush 122, 2) := by decide +kernel
theorem dX8_isLetter_9 : decode cX8_isLetter 9 = .ok (.if_icmp .gt 7, 3) := by decide +kernel
theorem dX8_isLetter_12 : decode cX8_isLetter 12 = .ok (.iconst 1, 1) := by decide +kernel
theorem dX8_isLetter_13 : decode cX8_isLetter 13 = .ok (.goto 4, 3) := by decide +kernel
theorem dX8_isLetter_16 : decode cX8_isLetter 16 = .ok (.iconst 0, 1) := by decide +kernel
theorem dX8_isLetter_17 : decode cX8_isLetter 17 = .ok (.ireturn, 1) := by decide +kernel
def f_X8_isLetter (G : GG) (v0 : Int32) (h : AH) : Option (Int32 × AH) :=
if v0 < (97 : Int32) then (some ((0 : Int32), h)) else
if (122 : Int32) < v0 then (some ((0 : Int32), h)) else
some ((1 : Int32), h)
set_option maxHeartbeats 4000000 in
set_option maxRecDepth 100000 in
theorem ct_X8_isLetter {G : GG} {l : Launch} {v0 : Int32} {h : AH} {y : Int32 × AH} (hf : f_X8_isLetter G v0 h = some y) : Ct G l yX8_isLetter cX8_isLetter 1 (some .boolean) 0 0 0 0 [.int v0] h (some (.int y.1), y.2) := by
  refine ct_of (by decide) (Nat.le_of_ble_eq_true rfl) ?_
  intro p e s m args below meth c C hm hr hin
  have C : Cx G cX8_isLetter RX8 p s m args meth c := C
  refine e_lv (lv2 := [(0, .int v0)]) [0] rfl ?_
  unfold f_X8_isLetter at hf
  refine e_iload_n (pc := 0) C dX8_isLetter_0 0 rfl rfl ?_
  refine e_bipush (v := (97 : Int32)) (pc := 1) C dX8_isLetter_1 (by decide) ?_
  rcases it_e hf with ⟨c1, hf⟩ | ⟨c1, hf⟩
  · refine e_icmp_lt (pc := 3) (tgt := 16) C dX8_isLetter_3 (by decide) (fun _ => ?_) (fun q => absurd c1 q)
    refine e_iconst (v := (0 : Int32)) (pc := 16) C dX8_isLetter_16 (by decide) ?_
    obtain rfl := so_e hf
    exact e_zret (pc := 17) (v := (0 : Int32)) C hr (nz_ok (by decide)) dX8_isLetter_17 (Nat.le_of_ble_eq_true rfl) (Nat.le_of_ble_eq_true rfl)
  · refine e_icmp_lt (pc := 3) (tgt := 16) C dX8_isLetter_3 (by decide) (fun q => absurd q c1) (fun _ => ?_)
    refine e_iload_n (pc := 6) C dX8_isLetter_6 0 rfl rfl ?_
    refine e_bipush (v := (122 : Int32)) (pc := 7) C dX8_isLetter_7 (by decide) ?_
    rcases it_e hf with ⟨c2, hf⟩ | ⟨c2, hf⟩
    · refine e_icmp_gt (pc := 9) (tgt := 16) C dX8_isLetter_9 (by decide) (fun _ => ?_) (fun q => absurd c2 q)
      refine e_iconst (v := (0 : Int32)) (pc := 16) C dX8_isLetter_16 (by decide) ?_
      obtain rfl := so_e hf
      exact e_zret (pc := 17) (v := (0 : Int32)) C hr (nz_ok (by decide)) dX8_isLetter_17 (Nat.le_of_ble_eq_true rfl) (Nat.le_of_ble_eq_true rfl)
    · refine e_icmp_gt (pc := 9) (tgt := 16) C dX8_isLetter_9 (by decide) (fun q => absurd q c2) (fun _ => ?_)
      refine e_iconst (v := (1 : Int32)) (pc := 12) C dX8_isLetter_12 (by decide) ?_
      refine e_goto (pc := 13) (tgt := 17) C dX8_isLetter_13 (by decide) ?_
      obtain rfl := so_e hf
      exact e_zret (pc := 17) (v := (1 : Int32)) C hr (nz_ok (by decide)) dX8_isLetter_17 (Nat.le_of_ble_eq_true rfl) (Nat.le_of_ble_eq_true rfl)
theorem dX8_isColumn_0 : decode cX8_isColumn 0 = .ok (.iload 4, 2) := by decide +kernel
theorem dX8_isColumn_2 : decode cX8_isColumn 2 = .ok (.iload_n 3, 1) := by decide +kernel
theorem dX8_isColumn_3 : decode cX8_isColumn 3 = .ok (.isub, 1) := by decide +kernel
theorem dX8_isColumn_4 : decode cX8_isColumn 4 = .ok (.bipush 6, 2) := by decide +kernel
theorem dX8_isColumn_6 : decode cX8_isColumn 6 = .ok (.if_icmp .le 5, 3) := by decide +kernel
theorem dX8_isColumn_9 : decode cX8_isColumn 9 = .ok (.iconst 0, 1) := by decide +kernel
theorem dX8_isColumn_10 : decode cX8_isColumn 10 = .ok (.ireturn, 1) := by decide +kernel
theorem dX8_isColumn_11 : decode cX8_isColumn 11 = .ok (.iconst 0, 1) := by decide +kernel
theorem dX8_isColumn_12 : decode cX8_isColumn 12 = .ok (.istore 5, 2) := by decide +kernel
theorem dX8_isColumn_14 : decode cX8_isColumn 14 = .ok (.iload 5, 2) := by decide +kernel
theorem dX8_isColumn_16 : decode cX8_isColumn 16 = .ok (.bipush 6, 2) := by decide +kernel
theorem dX8_isColumn_18 : decode cX8_isColumn 18 = .ok (.if_icmp .ge 48, 3) := by decide +kernel
theorem dX8_isColumn_21 : decode cX8_isColumn 21 = .ok (.iload_n 3, 1) := by decide +kernel
theorem dX8_isColumn_22 : decode cX8_isColumn 22 = .ok (.iload 5, 2) := by decide +kernel
theorem dX8_isColumn_24 : decode cX8_isColumn 24 = .ok (.iadd, 1) := by decide +kernel
theorem dX8_isColumn_25 : decode cX8_isColumn 25 = .ok (.iload 4, 2) := by decide +kernel
theorem dX8_isColumn_27 : decode cX8_isColumn 27 = .ok (.if_icmp .ge 14, 3) := by decide +kernel
theorem dX8_isColumn_30 : decode cX8_isColumn 30 = .ok (.aload_n 0, 1) := by decide +kernel
theorem dX8_isColumn_31 : decode cX8_isColumn 31 = .ok (.iload_n 3, 1) := by decide +kernel
theorem dX8_isColumn_32 : decode cX8_isColumn 32 = .ok (.iload 5, 2) := by decide +kernel
theorem dX8_isColumn_34 : decode cX8_isColumn 34 = .ok (.iadd, 1) := by decide +kernel
theorem dX8_isColumn_35 : decode cX8_isColumn 35 = .ok (.invokevirtual 59, 3) := by decide +kernel
theorem dX8_isColumn_38 : decode cX8_isColumn 38 = .ok (.goto 5, 3) := by decide +kernel
theorem dX8_isColumn_41 : decode cX8_isColumn 41 = .ok (.bipush 32, 2) := by decide +kernel
theorem dX8_isColumn_43 : decode cX8_isColumn 43 = .ok (.istore 6, 2) := by decide +kernel
theorem dX8_isColumn_45 : decode cX8_isColumn 45 = .ok (.aload_n 1, 1) := by decide +kernel
theorem dX8_isColumn_46 : decode cX8_isColumn 46 = .ok (.iload_n 2, 1) := by decide +kernel
theorem dX8_isColumn_47 : decode cX8_isColumn 47 = .ok (.iload 5, 2) := by decide +kernel
theorem dX8_isColumn_49 : decode cX8_isColumn 49 = .ok (.iadd, 1) := by decide +kernel
theorem dX8_isColumn_50 : decode cX8_isColumn 50 = .ok (.invokevirtual 83, 3) := by decide +kernel
theorem dX8_isColumn_53 : decode cX8_isColumn 53 = .ok (.iload 6, 2) := by decide +kernel
theorem dX8_isColumn_55 : decode cX8_isColumn 55 = .ok (.if_icmp .eq 5, 3) := by decide +kernel
theorem dX8_isColumn_58 : decode cX8_isColumn 58 = .ok (.iconst 0, 1) := by decide +kernel
theorem dX8_isColumn_59 : decode cX8_isColumn 59 = .ok (.ireturn, 1) := by decide +kernel
theorem dX8_isColumn_60 : decode cX8_isColumn 60 = .ok (.iinc 5 1, 3) := by decide +kernel
theorem dX8_isColumn_63 : decode cX8_isColumn 63 = .ok (.goto (-49), 3) := by decide +kernel
theorem dX8_isColumn_66 : decode cX8_isColumn 66 = .ok (.iconst 1, 1) := by decide +kernel
theorem dX8_isColumn_67 : decode cX8_isColumn 67 = .ok (.ireturn, 1) := by decide +kernel
def F_X8_isColumn_14 (G : GG) (v0 : Nat) (v1 : Nat) (v2 : Int32) (v3 : Int32) (v4 : Int32) (self_14 : Int32 → AH → Option (Int32 × AH)) (v5 : Int32) (h : AH) : Option (Int32 × AH) :=
if (6 : Int32) ≤ v5 then (some ((1 : Int32), h)) else
nn (fun (s0_43 : Int32) (h_43 : AH) => (cb (f_J0_charAt_5068e G v1 (v2 + v5) h_43) fun r5 h3 =>
if r5 = s0_43 then (nn (v5 + (1 : Int32)) fun x7 =>
self_14 x7 h3) else
some ((0 : Int32), h3))) fun j_43 =>
if v4 ≤ (v3 + v5) then (j_43 (32 : Int32) h) else
ck (m_t h v0 = .inl 8) <|
cb (f_X8_byteAt G v0 (v3 + v5) h) fun r12 h10 =>
j_43 r12 h10
def f_X8_isColumn (G : GG) (v0 : Nat) (v1 : Nat) (v2 : Int32) (v3 : Int32) (v4 : Int32) (h : AH) : Option (Int32 × AH) :=
if (v4 - v3) ≤ (6 : Int32) then (lq1 (F_X8_isColumn_14 G v0 v1 v2 v3 v4 ) bN (0 : Int32) h) else
some ((0 : Int32), h)
set_option maxHeartbeats 4000000 in
set_option maxRecDepth 100000 in
theorem el_X8_isColumn_14 {G : GG} {p : Program} {l : Launch} {e : Env} {s : State} {m : MethodId} {args : Array Value} {below : List Frame} {meth : Method} {c : Code} {y : Int32 × AH} (C : Cx G cX8_isColumn RX8 p s m args meth c) (hm : c.maxLocals = 7) (hr : meth.sig.returnType = (some .boolean)) (hin : meth.name = yX8_isColumn.name) {v0 : Nat} {v1 : Nat} {v2 : Int32} {v3 : Int32} {v4 : Int32}  :
    ∀ (n : Nat) (v5 : Int32) (h : AH), lq1 (F_X8_isColumn_14 G v0 v1 v2 v3 v4) n v5 h = some y → EE G p l e ({ frames := 4, cells := 0, slots := 0, locals := 85 } : Room) s m args below meth c (some (.int y.1), y.2) 0 0 14 [(0, .ref v0), (1, .ref v1), (2, .int v2), (3, .int v3), (4, .int v4), (5, .int v5)] [] h 0 0 := by
  intro n
  induction n with
  | zero => intro v5 h hf; exact (no_e hf).elim
  | succ n ih_14 =>
    intro v5 h hf
    have hf : F_X8_isColumn_14 G v0 v1 v2 v3 v4 (lq1 (F_X8_isColumn_14 G v0 v1 v2 v3 v4) n) v5 h = some y := hf
    generalize lq1 (F_X8_isColumn_14 G v0 v1 v2 v3 v4) n = self_14 at hf ih_14
    unfold F_X8_isColumn_14 at hf
    refine e_iload (pc := 14) C dX8_isColumn_14 5 rfl ?_
    refine e_bipush (v := (6 : Int32)) (pc := 16) C dX8_isColumn_16 (by decide) ?_
    rcases it_e hf with ⟨c2, hf⟩ | ⟨c2, hf⟩
    · refine e_icmp_ge (pc := 18) (tgt := 66) C dX8_isColumn_18 (by decide) (fun _ => ?_) (fun q => absurd c2 q)
      refine e_iconst (v := (1 : Int32)) (pc := 66) C dX8_isColumn_66 (by decide) ?_
      obtain rfl := so_e hf
      exact e_zret (pc := 67) (v := (1 : Int32)) C hr (nz_ok (by decide)) dX8_isColumn_67 (Nat.le_of_ble_eq_true rfl) (Nat.le_of_ble_eq_true rfl)
    · refine e_icmp_ge (pc := 18) (tgt := 66) C dX8_isColumn_18 (by decide) (fun q => absurd q c2) (fun _ => ?_)
      refine e_iload_n (pc := 21) C dX8_isColumn_21 3 rfl rfl ?_
      refine e_iload (pc := 22) C dX8_isColumn_22 5 rfl ?_
      refine e_iadd (pc := 24) C dX8_isColumn_24 ?_
      refine e_iload (pc := 25) C dX8_isColumn_25 4 rfl ?_
      obtain ⟨j_43, ej_43, hf⟩ := nn_e hf
      have W_43 : ∀ (s0_43 : Int32) (h_43 : AH), j_43 s0_43 h_43 = some y → EE G p l e ({ frames := 4, cells := 0, slots := 0, locals := 85 } : Room) s m args below meth c (some (.int y.1), y.2) 0 0 43 [(0, .ref v0), (1, .ref v1), (2, .int v2), (3, .int v3), (4, .int v4), (5, .int v5)] [.int s0_43] h_43 0 0 := by
        intro s0_43 h_43 hf
        rw [ej_43] at hf
        refine e_istore (pc := 43) (lv2 := [(6, .int s0_43), (0, .ref v0), (1, .ref v1), (2, .int v2), (3, .int v3), (4, .int v4), (5, .int v5)]) C hm dX8_isColumn_43 (by decide) rfl ?_
        refine e_aload_n (pc := 45) C dX8_isColumn_45 2 rfl rfl ?_
        refine e_iload_n (pc := 46) C dX8_isColumn_46 3 rfl rfl ?_
        refine e_iload (pc := 47) C dX8_isColumn_47 6 rfl ?_
        refine e_iadd (pc := 49) C dX8_isColumn_49 ?_
        obtain ⟨r5, h3, y4, hf⟩ := cb_e hf
        refine e_callK (pc := 50) (st := []) (sq_J0_charAt_5068e y4) C (ct_J0_charAt_5068e y4) dX8_isColumn_50 g676 g677 g678 g158 g679 hd_J0_charAt_5068e rfl ⟨Nat.le_of_ble_eq_true rfl, Nat.le_of_ble_eq_true rfl⟩ ⟨Nat.le_of_ble_eq_true rfl, Nat.le_of_ble_eq_true rfl⟩ rfl (Nat.le_of_ble_eq_true rfl) ?_
        refine e_iload (pc := 53) C dX8_isColumn_53 0 rfl ?_
        rcases it_e hf with ⟨c6, hf⟩ | ⟨c6, hf⟩
        · refine e_icmp_eq (pc := 55) (tgt := 60) C dX8_isColumn_55 (by decide) (fun _ => ?_) (fun q => absurd c6 q)
          obtain ⟨x7, ex7, hf⟩ := nn_e hf
          refine e_iinc (pc := 60) (v := x7) (lv2 := [(5, .int x7), (6, .int s0_43), (0, .ref v0), (1, .ref v1), (2, .int v2), (3, .int v3), (4, .int v4)]) C hm dX8_isColumn_60 6 rfl (by rw [ex7]; rfl) (by decide) rfl ?_
          refine e_goto (pc := 63) (tgt := 14) C dX8_isColumn_63 (by decide) ?_
          refine e_lv (lv2 := [(0, .ref v0), (1, .ref v1), (2, .int v2), (3, .int v3), (4, .int v4), (5, .int x7)]) [2, 3, 4, 5, 6, 0] rfl ?_
          exact ih_14 x7 h3 hf
        · refine e_icmp_eq (pc := 55) (tgt := 60) C dX8_isColumn_55 (by decide) (fun q => absurd q c6) (fun _ => ?_)
          refine e_iconst (v := (0 : Int32)) (pc := 58) C dX8_isColumn_58 (by decide) ?_
          obtain rfl := so_e hf
          exact e_zret (pc := 59) (v := (0 : Int32)) C hr (nz_ok (by decide)) dX8_isColumn_59 (Nat.le_of_ble_eq_true rfl) (Nat.le_of_ble_eq_true rfl)
      rcases it_e hf with ⟨c8, hf⟩ | ⟨c8, hf⟩
      · refine e_icmp_ge (pc := 27) (tgt := 41) C dX8_isColumn_27 (by decide) (fun _ => ?_) (fun q => absurd c8 q)
        refine e_bipush (v := (32 : Int32)) (pc := 41) C dX8_isColumn_41 (by decide) ?_
        exact W_43 (32 : Int32) h hf
      · refine e_icmp_ge (pc := 27) (tgt := 41) C dX8_isColumn_27 (by decide) (fun q => absurd q c8) (fun _ => ?_)
        refine e_aload_n (pc := 30) C dX8_isColumn_30 0 rfl rfl ?_
        refine e_iload_n (pc := 31) C dX8_isColumn_31 3 rfl rfl ?_
        refine e_iload (pc := 32) C dX8_isColumn_32 5 rfl ?_
        refine e_iadd (pc := 34) C dX8_isColumn_34 ?_
        obtain ⟨t9, hf⟩ := ck_e hf
        obtain ⟨r12, h10, y11, hf⟩ := cb_e hf
        refine e_callVi (pc := 35) (st := []) 8 C (ct_X8_byteAt y11) dX8_isColumn_35 (by decide) t9 g644 g646 g1 g147 g647 hd_X8_byteAt rfl ⟨Nat.le_of_ble_eq_true rfl, Nat.le_of_ble_eq_true rfl⟩ ⟨Nat.le_of_ble_eq_true rfl, Nat.le_of_ble_eq_true rfl⟩ rfl (Nat.le_of_ble_eq_true rfl) ?_
        refine e_goto (pc := 38) (tgt := 43) C dX8_isColumn_38 (by decide) ?_
        exact W_43 r12 h10 hf
set_option maxHeartbeats 4000000 in
set_option maxRecDepth 100000 in
theorem ct_X8_isColumn {G : GG} {l : Launch} {v0 : Nat} {v1 : Nat} {v2 : Int32} {v3 : Int32} {v4 : Int32} {h : AH} {y : Int32 × AH} (hf : f_X8_isColumn G v0 v1 v2 v3 v4 h = some y) : Ct G l yX8_isColumn cX8_isColumn 7 (some .boolean) 4 85 0 0 [.ref v0, .ref v1, .int v2, .int v3, .int v4] h (some (.int y.1), y.2) := by
  refine ct_of (by decide) (Nat.le_of_ble_eq_true rfl) ?_
  intro p e s m args below meth c C hm hr hin
  have C : Cx G cX8_isColumn RX8 p s m args meth c := C
  refine e_lv (lv2 := [(0, .ref v0), (1, .ref v1), (2, .int v2), (3, .int v3), (4, .int v4)]) [0, 1, 2, 3, 4] rfl ?_
  unfold f_X8_isColumn at hf
  refine e_iload (pc := 0) C dX8_isColumn_0 4 rfl ?_
  refine e_iload_n (pc := 2) C dX8_isColumn_2 3 rfl rfl ?_
  refine e_isub (pc := 3) C dX8_isColumn_3 ?_
  refine e_bipush (v := (6 : Int32)) (pc := 4) C dX8_isColumn_4 (by decide) ?_
  rcases it_e hf with ⟨c1, hf⟩ | ⟨c1, hf⟩
  · refine e_icmp_le (pc := 6) (tgt := 11) C dX8_isColumn_6 (by decide) (fun _ => ?_) (fun q => absurd c1 q)
    refine e_iconst (v := (0 : Int32)) (pc := 11) C dX8_isColumn_11 (by decide) ?_
    refine e_istore (pc := 12) (lv2 := [(5, .int (0 : Int32)), (0, .ref v0), (1, .ref v1), (2, .int v2), (3, .int v3), (4, .int v4)]) C hm dX8_isColumn_12 (by decide) rfl ?_
    refine e_lv (lv2 := [(0, .ref v0), (1, .ref v1), (2, .int v2), (3, .int v3), (4, .int v4), (5, .int (0 : Int32))]) [1, 2, 3, 4, 5, 0] rfl ?_
    exact el_X8_isColumn_14 C hm hr hin bN (0 : Int32) h hf
  · refine e_icmp_le (pc := 6) (tgt := 11) C dX8_isColumn_6 (by decide) (fun q => absurd q c1) (fun _ => ?_)
    refine e_iconst (v := (0 : Int32)) (pc := 9) C dX8_isColumn_9 (by decide) ?_
    obtain rfl := so_e hf
    exact e_zret (pc := 10) (v := (0 : Int32)) C hr (nz_ok (by decide)) dX8_isColumn_10 (Nat.le_of_ble_eq_true rfl) (Nat.le_of_ble_eq_true rfl)
theorem dX8_wordIn_0 : decode cX8_wordIn 0 = .ok (.iconst 0, 1) := by decide +kernel
theorem dX8_wordIn_1 : decode cX8_wordIn 1 = .ok (.istore 4, 2) := by decide +kernel
theorem dX8_wordIn_3 : decode cX8_wordIn 3 = .ok (.iload 4, 2) := by decide +kernel
theorem dX8_wordIn_5 : decode cX8_wordIn 5 = .ok (.bipush 6, 2) := by decide +kernel
theorem dX8_wordIn_7 : decode cX8_wordIn 7 = .ok (.iadd, 1) := by decide +kernel
theorem dX8_wordIn_8 : decode cX8_wordIn 8 = .ok (.aload_n 1, 1) := by decide +kernel
theorem dX8_wordIn_9 : decode cX8_wordIn 9 = .ok (.invokevirtual 74, 3) := by decide +kernel
theorem dX8_wordIn_12 : decode cX8_wordIn 12 = .ok (.if_icmp .gt 31, 3) := by decide +kernel
theorem dX8_wordIn_15 : decode cX8_wordIn 15 = .ok (.aload_n 0, 1) := by decide +kernel
theorem dX8_wordIn_16 : decode cX8_wordIn 16 = .ok (.aload_n 1, 1) := by decide +kernel
theorem dX8_wordIn_17 : decode cX8_wordIn 17 = .ok (.iload 4, 2) := by decide +kernel
theorem dX8_wordIn_19 : decode cX8_wordIn 19 = .ok (.iload_n 2, 1) := by decide +kernel
theorem dX8_wordIn_20 : decode cX8_wordIn 20 = .ok (.iload_n 3, 1) := by decide +kernel
theorem dX8_wordIn_21 : decode cX8_wordIn 21 = .ok (.invokevirtual 79, 3) := by decide +kernel
theorem dX8_wordIn_24 : decode cX8_wordIn 24 = .ok (.ifCond .eq 13, 3) := by decide +kernel
theorem dX8_wordIn_27 : decode cX8_wordIn 27 = .ok (.sipush 300, 3) := by decide +kernel
theorem dX8_wordIn_30 : decode cX8_wordIn 30 = .ok (.iload 4, 2) := by decide +kernel
theorem dX8_wordIn_32 : decode cX8_wordIn 32 = .ok (.bipush 6, 2) := by decide +kernel
theorem dX8_wordIn_34 : decode cX8_wordIn 34 = .ok (.idiv, 1) := by decide +kernel
theorem dX8_wordIn_35 : decode cX8_wordIn 35 = .ok (.iadd, 1) := by decide +kernel
theorem dX8_wordIn_36 : decode cX8_wordIn 36 = .ok (.ireturn, 1) := by decide +kernel
theorem dX8_wordIn_37 : decode cX8_wordIn 37 = .ok (.iinc 4 6, 3) := by decide +kernel
theorem dX8_wordIn_40 : decode cX8_wordIn 40 = .ok (.goto (-37), 3) := by decide +kernel
theorem dX8_wordIn_43 : decode cX8_wordIn 43 = .ok (.sipush 258, 3) := by decide +kernel
theorem dX8_wordIn_46 : decode cX8_wordIn 46 = .ok (.ireturn, 1) := by decide +kernel
def F_X8_wordIn_3 (G : GG) (v0 : Nat) (v1 : Nat) (v2 : Int32) (v3 : Int32) (K_27 : Int32 → AH → Option (Int32 × AH)) (self_3 : Int32 → AH → Option (Int32 × AH)) (v4 : Int32) (h : AH) : Option (Int32 × AH) :=
cb (f_J0_length_8abf5 G v1 h) fun r3 h1 =>
if r3 < (v4 + (6 : Int32)) then (some ((258 : Int32), h1)) else
ck (m_t h1 v0 = .inl 8) <|
cb (f_X8_isColumn G v0 v1 v4 v2 v3 h1) fun r8 h6 =>
if r8 = 0 then (nn (v4 + (6 : Int32)) fun x10 =>
self_3 x10 h6) else
K_27 v4 h6
def f_X8_wordIn (G : GG) (v0 : Nat) (v1 : Nat) (v2 : Int32) (v3 : Int32) (h : AH) : Option (Int32 × AH) :=
lq1 (F_X8_wordIn_3 G v0 v1 v2 v3 (fun (v4_27 : Int32) (h_27 : AH) => (some ((300 : Int32) + (v4_27 / (6 : Int32)), h_27)))) bN (0 : Int32) h
set_option maxHeartbeats 4000000 in
set_option maxRecDepth 100000 in
theorem el_X8_wordIn_3 {G : GG} {p : Program} {l : Launch} {e : Env} {s : State} {m : MethodId} {args : Array Value} {below : List Frame} {meth : Method} {c : Code} {y : Int32 × AH} (C : Cx G cX8_wordIn RX8 p s m args meth c) (hm : c.maxLocals = 5) (hr : meth.sig.returnType = (some .int)) (hin : meth.name = yX8_wordIn.name) {v0 : Nat} {v1 : Nat} {v2 : Int32} {v3 : Int32} {K_27 : Int32 → AH → Option (Int32 × AH)} (hK_27 : ∀ (u4 : Int32) (h : AH), K_27 u4 h = some y → EE G p l e ({ frames := 5, cells := 0, slots := 0, locals := 111 } : Room) s m args below meth c (some (.int y.1), y.2) 0 0 27 [(4, .int u4)] [] h 0 0) :
    ∀ (n : Nat) (v4 : Int32) (h : AH), lq1 (F_X8_wordIn_3 G v0 v1 v2 v3 K_27) n v4 h = some y → EE G p l e ({ frames := 5, cells := 0, slots := 0, locals := 111 } : Room) s m args below meth c (some (.int y.1), y.2) 0 0 3 [(0, .ref v0), (1, .ref v1), (2, .int v2), (3, .int v3), (4, .int v4)] [] h 0 0 := by
  intro n
  induction n with
  | zero => intro v4 h hf; exact (no_e hf).elim
  | succ n ih_3 =>
    intro v4 h hf
    have hf : F_X8_wordIn_3 G v0 v1 v2 v3 K_27 (lq1 (F_X8_wordIn_3 G v0 v1 v2 v3 K_27) n) v4 h = some y := hf
    generalize lq1 (F_X8_wordIn_3 G v0 v1 v2 v3 K_27) n = self_3 at hf ih_3
    unfold F_X8_wordIn_3 at hf
    refine e_iload (pc := 3) C dX8_wordIn_3 4 rfl ?_
    refine e_bipush (v := (6 : Int32)) (pc := 5) C dX8_wordIn_5 (by decide) ?_
    refine e_iadd (pc := 7) C dX8_wordIn_7 ?_
    refine e_aload_n (pc := 8) C dX8_wordIn_8 1 rfl rfl ?_
    obtain ⟨r3, h1, y2, hf⟩ := cb_e hf
    refine e_callK (pc := 9) (st := [.int (v4 + (6 : Int32))]) (sq_J0_length_8abf5 y2) C (ct_J0_length_8abf5 y2) dX8_wordIn_9 g662 g663 g664 g158 g665 hd_J0_length_8abf5 rfl ⟨Nat.le_of_ble_eq_true rfl, Nat.le_of_ble_eq_true rfl⟩ ⟨Nat.le_of_ble_eq_true rfl, Nat.le_of_ble_eq_true rfl⟩ rfl (Nat.le_of_ble_eq_true rfl) ?_
    rcases it_e hf with ⟨c4, hf⟩ | ⟨c4, hf⟩
    · refine e_icmp_gt (pc := 12) (tgt := 43) C dX8_wordIn_12 (by decide) (fun _ => ?_) (fun q => absurd c4 q)
      refine e_sipush (v := (258 : Int32)) (pc := 43) C dX8_wordIn_43 (by decide) ?_
      obtain rfl := so_e hf
      exact e_iret (pc := 46) C hr dX8_wordIn_46 (Nat.le_of_ble_eq_true rfl) (Nat.le_of_ble_eq_true rfl)
    · refine e_icmp_gt (pc := 12) (tgt := 43) C dX8_wordIn_12 (by decide) (fun q => absurd q c4) (fun _ => ?_)
      refine e_aload_n (pc := 15) C dX8_wordIn_15 0 rfl rfl ?_
      refine e_aload_n (pc := 16) C dX8_wordIn_16 1 rfl rfl ?_
      refine e_iload (pc := 17) C dX8_wordIn_17 4 rfl ?_
      refine e_iload_n (pc := 19) C dX8_wordIn_19 2 rfl rfl ?_
      refine e_iload_n (pc := 20) C dX8_wordIn_20 3 rfl rfl ?_
      obtain ⟨t5, hf⟩ := ck_e hf
      obtain ⟨r8, h6, y7, hf⟩ := cb_e hf
      refine e_callVi (pc := 21) (st := []) 8 C (ct_X8_isColumn y7) dX8_wordIn_21 (by decide) t5 g672 g674 g4 g147 g675 hd_X8_isColumn rfl ⟨Nat.le_of_ble_eq_true rfl, Nat.le_of_ble_eq_true rfl⟩ ⟨Nat.le_of_ble_eq_true rfl, Nat.le_of_ble_eq_true rfl⟩ rfl (Nat.le_of_ble_eq_true rfl) ?_
      rcases it_e hf with ⟨c9, hf⟩ | ⟨c9, hf⟩
      · refine e_if_eq (pc := 24) (tgt := 37) C dX8_wordIn_24 (by decide) (fun _ => ?_) (fun q => absurd c9 q)
        obtain ⟨x10, ex10, hf⟩ := nn_e hf
        refine e_iinc (pc := 37) (v := x10) (lv2 := [(4, .int x10), (0, .ref v0), (1, .ref v1), (2, .int v2), (3, .int v3)]) C hm dX8_wordIn_37 4 rfl (by rw [ex10]; rfl) (by decide) rfl ?_
        refine e_goto (pc := 40) (tgt := 3) C dX8_wordIn_40 (by decide) ?_
        refine e_lv (lv2 := [(0, .ref v0), (1, .ref v1), (2, .int v2), (3, .int v3), (4, .int x10)]) [1, 2, 3, 4, 0] rfl ?_
        exact ih_3 x10 h6 hf
      · refine e_if_eq (pc := 24) (tgt := 37) C dX8_wordIn_24 (by decide) (fun q => absurd q c9) (fun _ => ?_)
        refine e_lv (lv2 := [(4, .int v4)]) [4] rfl ?_
        exact hK_27 v4 h6 hf
set_option maxHeartbeats 4000000 in
set_option maxRecDepth 100000 in
theorem ct_X8_wordIn {G : GG} {l : Launch} {v0 : Nat} {v1 : Nat} {v2 : Int32} {v3 : Int32} {h : AH} {y : Int32 × AH} (hf : f_X8_wordIn G v0 v1 v2 v3 h = some y) : Ct G l yX8_wordIn cX8_wordIn 5 (some .int) 5 111 0 0 [.ref v0, .ref v1, .int v2, .int v3] h (some (.int y.1), y.2) := by
  refine ct_of (by decide) (Nat.le_of_ble_eq_true rfl) ?_
  intro p e s m args below meth c C hm hr hin
  have C : Cx G cX8_wordIn RX8 p s m args meth c := C
  refine e_lv (lv2 := [(0, .ref v0), (1, .ref v1), (2, .int v2), (3, .int v3)]) [0, 1, 2, 3] rfl ?_
  unfold f_X8_wordIn at hf
  refine e_iconst (v := (0 : Int32)) (pc := 0) C dX8_wordIn_0 (by decide) ?_
  refine e_istore (pc := 1) (lv2 := [(4, .int (0 : Int32)), (0, .ref v0), (1, .ref v1), (2, .int v2), (3, .int v3)]) C hm dX8_wordIn_1 (by decide) rfl ?_
  refine e_lv (lv2 := [(0, .ref v0), (1, .ref v1), (2, .int v2), (3, .int v3), (4, .int (0 : Int32))]) [1, 2, 3, 4, 0] rfl ?_
  refine el_X8_wordIn_3 C hm hr hin (fun v4_27 h_27 hf => ?_) bN (0 : Int32) h hf
  refine e_sipush (v := (300 : Int32)) (pc := 27) C dX8_wordIn_27 (by decide) ?_
  refine e_iload (pc := 30) C dX8_wordIn_30 0 rfl ?_
  refine e_bipush (v := (6 : Int32)) (pc := 32) C dX8_wordIn_32 (by decide) ?_
  refine e_idiv (pc := 34) C dX8_wordIn_34 (by decide) ?_
  refine e_iadd (pc := 35) C dX8_wordIn_35 ?_
  obtain rfl := so_e hf
  exact e_iret (pc := 36) C hr dX8_wordIn_36 (Nat.le_of_ble_eq_true rfl) (Nat.le_of_ble_eq_true rfl)
theorem dX8_cutAt_0 : decode cX8_cutAt 0 = .ok (.aload_n 0, 1) := by decide +kernel
theorem dX8_cutAt_1 : decode cX8_cutAt 1 = .ok (.iload_n 1, 1) := by decide +kernel
theorem dX8_cutAt_2 : decode cX8_cutAt 2 = .ok (.invokevirtual 59, 3) := by decide +kernel
theorem dX8_cutAt_5 : decode cX8_cutAt 5 = .ok (.istore_n 3, 1) := by decide +kernel
theorem dX8_cutAt_6 : decode cX8_cutAt 6 = .ok (.aload_n 0, 1) := by decide +kernel
theorem dX8_cutAt_7 : decode cX8_cutAt 7 = .ok (.iload_n 1, 1) := by decide +kernel
theorem dX8_cutAt_8 : decode cX8_cutAt 8 = .ok (.iconst 1, 1) := by decide +kernel
theorem dX8_cutAt_9 : decode cX8_cutAt 9 = .ok (.isub, 1) := by decide +kernel
theorem dX8_cutAt_10 : decode cX8_cutAt 10 = .ok (.invokevirtual 59, 3) := by decide +kernel
theorem dX8_cutAt_13 : decode cX8_cutAt 13 = .ok (.istore 4, 2) := by decide +kernel
theorem dX8_cutAt_15 : decode cX8_cutAt 15 = .ok (.iload_n 3, 1) := by decide +kernel
theorem dX8_cutAt_16 : decode cX8_cutAt 16 = .ok (.invokestatic 63, 3) := by decide +kernel
theorem dX8_cutAt_19 : decode cX8_cutAt 19 = .ok (.ifCond .eq 67, 3) := by decide +kernel
theorem dX8_cutAt_22 : decode cX8_cutAt 22 = .ok (.iload 4, 2) := by decide +kernel
theorem dX8_cutAt_24 : decode cX8_cutAt 24 = .ok (.invokestatic 63, 3) := by decide +kernel
theorem dX8_cutAt_27 : decode cX8_cutAt 27 = .ok (.ifCond .ne 11, 3) := by decide +kernel
theorem dX8_cutAt_30 : decode cX8_cutAt 30 = .ok (.aload_n 0, 1) := by decide +kernel
theorem dX8_cutAt_31 : decode cX8_cutAt 31 = .ok (.sipush 256, 3) := by decide +kernel
theorem dX8_cutAt_34 : decode cX8_cutAt 34 = .ok (.iload_n 1, 1) := by decide +kernel
theorem dX8_cutAt_35 : decode cX8_cutAt 35 = .ok (.invokevirtual 48, 3) := by decide +kernel
theorem dX8_cutAt_38 : decode cX8_cutAt 38 = .ok (.aload_n 0, 1) := by decide +kernel
theorem dX8_cutAt_39 : decode cX8_cutAt 39 = .ok (.getfield 26, 3) := by decide +kernel
theorem dX8_cutAt_42 : decode cX8_cutAt 42 = .ok (.aload_n 0, 1) := by decide +kernel
theorem dX8_cutAt_43 : decode cX8_cutAt 43 = .ok (.getfield 29, 3) := by decide +kernel
theorem dX8_cutAt_46 : decode cX8_cutAt 46 = .ok (.iload_n 1, 1) := by decide +kernel
theorem dX8_cutAt_47 : decode cX8_cutAt 47 = .ok (.aload_n 0, 1) := by decide +kernel
theorem dX8_cutAt_48 : decode cX8_cutAt 48 = .ok (.getfield 23, 3) := by decide +kernel
theorem dX8_cutAt_51 : decode cX8_cutAt 51 = .ok (.aload_n 0, 1) := by decide +kernel
theorem dX8_cutAt_52 : decode cX8_cutAt 52 = .ok (.getfield 29, 3) := by decide +kernel
theorem dX8_cutAt_55 : decode cX8_cutAt 55 = .ok (.iaload, 1) := by decide +kernel
theorem dX8_cutAt_56 : decode cX8_cutAt 56 = .ok (.isub, 1) := by decide +kernel
theorem dX8_cutAt_57 : decode cX8_cutAt 57 = .ok (.iconst 5, 1) := by decide +kernel
theorem dX8_cutAt_58 : decode cX8_cutAt 58 = .ok (.if_icmp .ge 23, 3) := by decide +kernel
theorem dX8_cutAt_61 : decode cX8_cutAt 61 = .ok (.aload_n 0, 1) := by decide +kernel
theorem dX8_cutAt_62 : decode cX8_cutAt 62 = .ok (.getfield 26, 3) := by decide +kernel
theorem dX8_cutAt_65 : decode cX8_cutAt 65 = .ok (.aload_n 0, 1) := by decide +kernel
theorem dX8_cutAt_66 : decode cX8_cutAt 66 = .ok (.getfield 29, 3) := by decide +kernel
theorem dX8_cutAt_69 : decode cX8_cutAt 69 = .ok (.iaload, 1) := by decide +kernel
theorem dX8_cutAt_70 : decode cX8_cutAt 70 = .ok (.bipush 10, 2) := by decide +kernel
theorem dX8_cutAt_72 : decode cX8_cutAt 72 = .ok (.imul, 1) := by decide +kernel
theorem dX8_cutAt_73 : decode cX8_cutAt 73 = .ok (.iload_n 3, 1) := by decide +kernel
theorem dX8_cutAt_74 : decode cX8_cutAt 74 = .ok (.iadd, 1) := by decide +kernel
theorem dX8_cutAt_75 : decode cX8_cutAt 75 = .ok (.bipush 48, 2) := by decide +kernel
theorem dX8_cutAt_77 : decode cX8_cutAt 77 = .ok (.isub, 1) := by decide +kernel
theorem dX8_cutAt_78 : decode cX8_cutAt 78 = .ok (.goto 4, 3) := by decide +kernel
theorem dX8_cutAt_81 : decode cX8_cutAt 81 = .ok (.iconst (-1), 1) := by decide +kernel
theorem dX8_cutAt_82 : decode cX8_cutAt 82 = .ok (.iastore, 1) := by decide +kernel
theorem dX8_cutAt_83 : decode cX8_cutAt 83 = .ok (.goto 128, 3) := by decide +kernel
theorem dX8_cutAt_86 : decode cX8_cutAt 86 = .ok (.iload_n 3, 1) := by decide +kernel
theorem dX8_cutAt_87 : decode cX8_cutAt 87 = .ok (.invokestatic 67, 3) := by decide +kernel
theorem dX8_cutAt_90 : decode cX8_cutAt 90 = .ok (.ifCond .eq 61, 3) := by decide +kernel
theorem dX8_cutAt_93 : decode cX8_cutAt 93 = .ok (.iload 4, 2) := by decide +kernel
theorem dX8_cutAt_95 : decode cX8_cutAt 95 = .ok (.invokestatic 67, 3) := by decide +kernel
theorem dX8_cutAt_98 : decode cX8_cutAt 98 = .ok (.ifCond .ne 11, 3) := by decide +kernel
theorem dX8_cutAt_101 : decode cX8_cutAt 101 = .ok (.aload_n 0, 1) := by decide +kernel
theorem dX8_cutAt_102 : decode cX8_cutAt 102 = .ok (.sipush 258, 3) := by decide +kernel
theorem dX8_cutAt_105 : decode cX8_cutAt 105 = .ok (.iload_n 1, 1) := by decide +kernel
theorem dX8_cutAt_106 : decode cX8_cutAt 106 = .ok (.invokevirtual 48, 3) := by decide +kernel
theorem dX8_cutAt_109 : decode cX8_cutAt 109 = .ok (.aload_n 0, 1) := by decide +kernel
theorem dX8_cutAt_110 : decode cX8_cutAt 110 = .ok (.iload_n 1, 1) := by decide +kernel
theorem dX8_cutAt_111 : decode cX8_cutAt 111 = .ok (.iconst 1, 1) := by decide +kernel
theorem dX8_cutAt_112 : decode cX8_cutAt 112 = .ok (.iadd, 1) := by decide +kernel
theorem dX8_cutAt_113 : decode cX8_cutAt 113 = .ok (.invokevirtual 59, 3) := by decide +kernel
theorem dX8_cutAt_116 : decode cX8_cutAt 116 = .ok (.invokestatic 67, 3) := by decide +kernel
theorem dX8_cutAt_119 : decode cX8_cutAt 119 = .ok (.ifCond .ne 92, 3) := by decide +kernel
theorem dX8_cutAt_122 : decode cX8_cutAt 122 = .ok (.aload_n 0, 1) := by decide +kernel
theorem dX8_cutAt_123 : decode cX8_cutAt 123 = .ok (.getfield 19, 3) := by decide +kernel
theorem dX8_cutAt_126 : decode cX8_cutAt 126 = .ok (.aload_n 0, 1) := by decide +kernel
theorem dX8_cutAt_127 : decode cX8_cutAt 127 = .ok (.getfield 29, 3) := by decide +kernel
theorem dX8_cutAt_130 : decode cX8_cutAt 130 = .ok (.aload_n 0, 1) := by decide +kernel
theorem dX8_cutAt_131 : decode cX8_cutAt 131 = .ok (.aload_n 2, 1) := by decide +kernel
theorem dX8_cutAt_132 : decode cX8_cutAt 132 = .ok (.aload_n 0, 1) := by decide +kernel
theorem dX8_cutAt_133 : decode cX8_cutAt 133 = .ok (.getfield 23, 3) := by decide +kernel
theorem dX8_cutAt_136 : decode cX8_cutAt 136 = .ok (.aload_n 0, 1) := by decide +kernel
theorem dX8_cutAt_137 : decode cX8_cutAt 137 = .ok (.getfield 29, 3) := by decide +kernel
theorem dX8_cutAt_140 : decode cX8_cutAt 140 = .ok (.iaload, 1) := by decide +kernel
theorem dX8_cutAt_141 : decode cX8_cutAt 141 = .ok (.iload_n 1, 1) := by decide +kernel
theorem dX8_cutAt_142 : decode cX8_cutAt 142 = .ok (.iconst 1, 1) := by decide +kernel
theorem dX8_cutAt_143 : decode cX8_cutAt 143 = .ok (.iadd, 1) := by decide +kernel
theorem dX8_cutAt_144 : decode cX8_cutAt 144 = .ok (.invokevirtual 70, 3) := by decide +kernel
theorem dX8_cutAt_147 : decode cX8_cutAt 147 = .ok (.iastore, 1) := by decide +kernel
theorem dX8_cutAt_148 : decode cX8_cutAt 148 = .ok (.goto 63, 3) := by decide +kernel
theorem dX8_cutAt_151 : decode cX8_cutAt 151 = .ok (.iload_n 3, 1) := by decide +kernel
theorem dX8_cutAt_152 : decode cX8_cutAt 152 = .ok (.bipush 61, 2) := by decide +kernel
theorem dX8_cutAt_154 : decode cX8_cutAt 154 = .ok (.if_icmp .ne 45, 3) := by decide +kernel
theorem dX8_cutAt_157 : decode cX8_cutAt 157 = .ok (.iload 4, 2) := by decide +kernel
theorem dX8_cutAt_159 : decode cX8_cutAt 159 = .ok (.bipush 60, 2) := by decide +kernel
theorem dX8_cutAt_161 : decode cX8_cutAt 161 = .ok (.if_icmp .eq 10, 3) := by decide +kernel
theorem dX8_cutAt_164 : decode cX8_cutAt 164 = .ok (.iload 4, 2) := by decide +kernel
theorem dX8_cutAt_166 : decode cX8_cutAt 166 = .ok (.bipush 62, 2) := by decide +kernel
theorem dX8_cutAt_168 : decode cX8_cutAt 168 = .ok (.if_icmp .ne 31, 3) := by decide +kernel
theorem dX8_cutAt_171 : decode cX8_cutAt 171 = .ok (.aload_n 0, 1) := by decide +kernel
theorem dX8_cutAt_172 : decode cX8_cutAt 172 = .ok (.getfield 19, 3) := by decide +kernel
theorem dX8_cutAt_175 : decode cX8_cutAt 175 = .ok (.aload_n 0, 1) := by decide +kernel
theorem dX8_cutAt_176 : decode cX8_cutAt 176 = .ok (.getfield 29, 3) := by decide +kernel
theorem dX8_cutAt_179 : decode cX8_cutAt 179 = .ok (.iload 4, 2) := by decide +kernel
theorem dX8_cutAt_181 : decode cX8_cutAt 181 = .ok (.bipush 60, 2) := by decide +kernel
theorem dX8_cutAt_183 : decode cX8_cutAt 183 = .ok (.if_icmp .ne 9, 3) := by decide +kernel
theorem dX8_cutAt_186 : decode cX8_cutAt 186 = .ok (.sipush 259, 3) := by decide +kernel
theorem dX8_cutAt_189 : decode cX8_cutAt 189 = .ok (.goto 6, 3) := by decide +kernel
theorem dX8_cutAt_192 : decode cX8_cutAt 192 = .ok (.sipush 260, 3) := by decide +kernel
theorem dX8_cutAt_195 : decode cX8_cutAt 195 = .ok (.iastore, 1) := by decide +kernel
theorem dX8_cutAt_196 : decode cX8_cutAt 196 = .ok (.goto 15, 3) := by decide +kernel
theorem dX8_cutAt_199 : decode cX8_cutAt 199 = .ok (.iload_n 3, 1) := by decide +kernel
theorem dX8_cutAt_200 : decode cX8_cutAt 200 = .ok (.bipush 32, 2) := by decide +kernel
theorem dX8_cutAt_202 : decode cX8_cutAt 202 = .ok (.if_icmp .eq 9, 3) := by decide +kernel
theorem dX8_cutAt_205 : decode cX8_cutAt 205 = .ok (.aload_n 0, 1) := by decide +kernel
theorem dX8_cutAt_206 : decode cX8_cutAt 206 = .ok (.iload_n 3, 1) := by decide +kernel
theorem dX8_cutAt_207 : decode cX8_cutAt 207 = .ok (.iload_n 1, 1) := by decide +kernel
theorem dX8_cutAt_208 : decode cX8_cutAt 208 = .ok (.invokevirtual 48, 3) := by decide +kernel
theorem dX8_cutAt_211 : decode cX8_cutAt 211 = .ok (.return_, 1) := by decide +kernel
def f_X8_cutAt (G : GG) (v0 : Nat) (v1 : Int32) (v2 : Nat) (h : AH) : Option (AH) :=
ck (m_t h v0 = .inl 8) <|
cb (f_X8_byteAt G v0 v1 h) fun r4 h2 =>
ck (m_t h2 v0 = .inl 8) <|
cb (f_X8_byteAt G v0 (v1 - (1 : Int32)) h2) fun r8 h6 =>
cb (f_X8_isDigit G r4 h6) fun r11 h9 =>
if r11 = 0 then (cb (f_X8_isLetter G r4 h9) fun r15 h13 =>
if r15 = 0 then (nn (fun (uu_199 : Unit) => (if r4 = (32 : Int32) then (some h13) else
ck (m_t h13 v0 = .inl 8) <|
ob (f_X8_put G v0 r4 v1 h13) fun h19 =>
some h19)) fun j_199 =>
if r4 = (61 : Int32) then (nn (fun (uu_171 : Unit) => (ck (m_t h13 v0 = .inl 8) <|
ob (m_r h13 v0 2) fun b23 =>
nn (fun (s0_195 : Int32) => (ck (ixb h13 b23 .int (m_i h13 v0 5) = true) <|
nn (m_si h13 b23 (m_i h13 v0 5).toNatClampNeg s0_195) fun h26 =>
some h26)) fun j_195 =>
if r8 = (60 : Int32) then (j_195 (259 : Int32)) else
j_195 (260 : Int32))) fun j_171 =>
if r8 = (60 : Int32) then (j_171 ()) else
if r8 = (62 : Int32) then (j_171 ()) else
j_199 ()) else
j_199 ()) else
cb (f_X8_isLetter G r8 h13) fun r32 h30 =>
nn (fun (h_109 : AH) => (ck (m_t h_109 v0 = .inl 8) <|
cb (f_X8_byteAt G v0 (v1 + (1 : Int32)) h_109) fun r36 h34 =>
cb (f_X8_isLetter G r36 h34) fun r39 h37 =>
if r39 = 0 then (ck (m_t h37 v0 = .inl 8) <|
ob (m_r h37 v0 2) fun b42 =>
ob (m_r h37 v0 3) fun b43 =>
ck (ixb h37 b43 .int (m_i h37 v0 5) = true) <|
cb (f_X8_wordIn G v0 v2 (m_i h37 b43 (m_i h37 v0 5).toNatClampNeg) (v1 + (1 : Int32)) h37) fun r48 h46 =>
ck (ixb h46 b42 .int (m_i h37 v0 5) = true) <|
nn (m_si h46 b42 (m_i h37 v0 5).toNatClampNeg r48) fun h51 =>
some h51) else
some h37)) fun j_109 =>
if r32 = 0 then (ck (m_t h30 v0 = .inl 8) <|
ob (f_X8_put G v0 (258 : Int32) v1 h30) fun h54 =>
j_109 h54) else
j_109 h30) else
cb (f_X8_isDigit G r8 h9) fun r58 h56 =>
nn (fun (h_38 : AH) => (ck (m_t h_38 v0 = .inl 8) <|
ob (m_r h_38 v0 4) fun b60 =>
ob (m_r h_38 v0 3) fun b61 =>
ck (ixb h_38 b61 .int (m_i h_38 v0 5) = true) <|
nn (fun (s0_82 : Int32) => (ck (ixb h_38 b60 .int (m_i h_38 v0 5) = true) <|
nn (m_si h_38 b60 (m_i h_38 v0 5).toNatClampNeg s0_82) fun h66 =>
some h66)) fun j_82 =>
if (5 : Int32) ≤ (v1 - (m_i h_38 b61 (m_i h_38 v0 5).toNatClampNeg)) then (j_82 (-1 : Int32)) else
ob (m_r h_38 v0 4) fun b68 =>
ck (ixb h_38 b68 .int (m_i h_38 v0 5) = true) <|
j_82 ((((m_i h_38 b68 (m_i h_38 v0 5).toNatClampNeg) * (10 : Int32)) + r4) - (48 : Int32)))) fun j_38 =>
if r58 = 0 then (ck (m_t h56 v0 = .inl 8) <|
ob (f_X8_put G v0 (256 : Int32) v1 h56) fun h73 =>
j_38 h73) else
j_38 h56
set_option maxHeartbeats 4000000 in
set_option maxRecDepth 100000 in
theorem ct_X8_cutAt {G : GG} {l : Launch} {v0 : Nat} {v1 : Int32} {v2 : Nat} {h : AH} {y : AH} (hf : f_X8_cutAt G v0 v1 v2 h = some y) : Ct G l yX8_cutAt cX8_cutAt 5 none 6 135 0 0 [.ref v0, .int v1, .ref v2] h (none, y) := by
  refine ct_of (by decide) (Nat.le_of_ble_eq_true rfl) ?_
  intro p e s m args below meth c C hm hr hin
  have C : Cx G cX8_cutAt RX8 p s m args meth c := C
  refine e_lv (lv2 := [(0, .ref v0), (1, .int v1), (2, .ref v2)]) [0, 1, 2] rfl ?_
  unfold f_X8_cutAt at hf
  refine e_aload_n (pc := 0) C dX8_cutAt_0 0 rfl rfl ?_
  refine e_iload_n (pc := 1) C dX8_cutAt_1 1 rfl rfl ?_
  obtain ⟨t1, hf⟩ := ck_e hf
  obtain ⟨r4, h2, y3, hf⟩ := cb_e hf
  refine e_callVi (pc := 2) (st := []) 8 C (ct_X8_byteAt y3) dX8_cutAt_2 (by decide) t1 g644 g646 g1 g147 g647 hd_X8_byteAt rfl ⟨Nat.le_of_ble_eq_true rfl, Nat.le_of_ble_eq_true rfl⟩ ⟨Nat.le_of_ble_eq_true rfl, Nat.le_of_ble_eq_true rfl⟩ rfl (Nat.le_of_ble_eq_true rfl) ?_
  refine e_istore_n (pc := 5) (lv2 := [(3, .int r4), (0, .ref v0), (1, .int v1), (2, .ref v2)]) C hm dX8_cutAt_5 rfl (by decide) rfl ?_
  refine e_aload_n (pc := 6) C dX8_cutAt_6 1 rfl rfl ?_
  refine e_iload_n (pc := 7) C dX8_cutAt_7 2 rfl rfl ?_
  refine e_iconst (v := (1 : Int32)) (pc := 8) C dX8_cutAt_8 (by decide) ?_
  refine e_isub (pc := 9) C dX8_cutAt_9 ?_
  obtain ⟨t5, hf⟩ := ck_e hf
  obtain ⟨r8, h6, y7, hf⟩ := cb_e hf
  refine e_callVi (pc := 10) (st := []) 8 C (ct_X8_byteAt y7) dX8_cutAt_10 (by decide) t5 g644 g646 g1 g147 g647 hd_X8_byteAt rfl ⟨Nat.le_of_ble_eq_true rfl, Nat.le_of_ble_eq_true rfl⟩ ⟨Nat.le_of_ble_eq_true rfl, Nat.le_of_ble_eq_true rfl⟩ rfl (Nat.le_of_ble_eq_true rfl) ?_
  refine e_istore (pc := 13) (lv2 := [(4, .int r8), (3, .int r4), (0, .ref v0), (1, .int v1), (2, .ref v2)]) C hm dX8_cutAt_13 (by decide) rfl ?_
  refine e_iload_n (pc := 15) C dX8_cutAt_15 1 rfl rfl ?_
  obtain ⟨r11, h9, y10, hf⟩ := cb_e hf
  refine e_callSi (pc := 16) (st := []) C (ct_X8_isDigit y10) dX8_cutAt_16 g648 g649 g147 g650 hd_X8_isDigit rfl ⟨Nat.le_of_ble_eq_true rfl, Nat.le_of_ble_eq_true rfl⟩ ⟨Nat.le_of_ble_eq_true rfl, Nat.le_of_ble_eq_true rfl⟩ rfl (Nat.le_of_ble_eq_true rfl) ?_
  rcases it_e hf with ⟨c12, hf⟩ | ⟨c12, hf⟩
  · refine e_if_eq (pc := 19) (tgt := 86) C dX8_cutAt_19 (by decide) (fun _ => ?_) (fun q => absurd c12 q)
    refine e_iload_n (pc := 86) C dX8_cutAt_86 1 rfl rfl ?_
    obtain ⟨r15, h13, y14, hf⟩ := cb_e hf
    refine e_callSi (pc := 87) (st := []) C (ct_X8_isLetter y14) dX8_cutAt_87 g655 g656 g147 g657 hd_X8_isLetter rfl ⟨Nat.le_of_ble_eq_true rfl, Nat.le_of_ble_eq_true rfl⟩ ⟨Nat.le_of_ble_eq_true rfl, Nat.le_of_ble_eq_true rfl⟩ rfl (Nat.le_of_ble_eq_true rfl) ?_
    rcases it_e hf with ⟨c16, hf⟩ | ⟨c16, hf⟩
    · refine e_if_eq (pc := 90) (tgt := 151) C dX8_cutAt_90 (by decide) (fun _ => ?_) (fun q => absurd c16 q)
      refine e_iload_n (pc := 151) C dX8_cutAt_151 1 rfl rfl ?_
      refine e_bipush (v := (61 : Int32)) (pc := 152) C dX8_cutAt_152 (by decide) ?_
      obtain ⟨j_199, ej_199, hf⟩ := nn_e hf
      have W_199 : ∀ (uu_199 : Unit), j_199 uu_199 = some y → EE G p l e ({ frames := 6, cells := 0, slots := 0, locals := 135 } : Room) s m args below meth c (none, y) 0 0 199 [(0, .ref v0), (1, .int v1), (3, .int r4)] [] h13 0 0 := by
        intro uu_199 hf
        rw [ej_199] at hf
        refine e_iload_n (pc := 199) C dX8_cutAt_199 2 rfl rfl ?_
        refine e_bipush (v := (32 : Int32)) (pc := 200) C dX8_cutAt_200 (by decide) ?_
        rcases it_e hf with ⟨c17, hf⟩ | ⟨c17, hf⟩
        · refine e_icmp_eq (pc := 202) (tgt := 211) C dX8_cutAt_202 (by decide) (fun _ => ?_) (fun q => absurd c17 q)
          obtain rfl := so_e hf
          exact e_vret (pc := 211) C hr dX8_cutAt_211 (Nat.le_of_ble_eq_true rfl) (Nat.le_of_ble_eq_true rfl)
        · refine e_icmp_eq (pc := 202) (tgt := 211) C dX8_cutAt_202 (by decide) (fun q => absurd q c17) (fun _ => ?_)
          refine e_aload_n (pc := 205) C dX8_cutAt_205 0 rfl rfl ?_
          refine e_iload_n (pc := 206) C dX8_cutAt_206 2 rfl rfl ?_
          refine e_iload_n (pc := 207) C dX8_cutAt_207 1 rfl rfl ?_
          obtain ⟨t18, hf⟩ := ck_e hf
          obtain ⟨h19, y20, hf⟩ := ob_e hf
          refine e_callVv (pc := 208) (st := []) 8 C (ct_X8_put y20) dX8_cutAt_208 (by decide) t18 g651 g653 g2 g147 g654 hd_X8_put rfl ⟨Nat.le_of_ble_eq_true rfl, Nat.le_of_ble_eq_true rfl⟩ ⟨Nat.le_of_ble_eq_true rfl, Nat.le_of_ble_eq_true rfl⟩ rfl (Nat.le_of_ble_eq_true rfl) ?_
          obtain rfl := so_e hf
          exact e_vret (pc := 211) C hr dX8_cutAt_211 (Nat.le_of_ble_eq_true rfl) (Nat.le_of_ble_eq_true rfl)
      rcases it_e hf with ⟨c21, hf⟩ | ⟨c21, hf⟩
      · refine e_icmp_ne (pc := 154) (tgt := 199) C dX8_cutAt_154 (by decide) (fun q => absurd c21 q) (fun _ => ?_)
        refine e_iload (pc := 157) C dX8_cutAt_157 0 rfl ?_
        refine e_bipush (v := (60 : Int32)) (pc := 159) C dX8_cutAt_159 (by decide) ?_
        obtain ⟨j_171, ej_171, hf⟩ := nn_e hf
        have W_171 : ∀ (uu_171 : Unit), j_171 uu_171 = some y → EE G p l e ({ frames := 6, cells := 0, slots := 0, locals := 135 } : Room) s m args below meth c (none, y) 0 0 171 [(0, .ref v0), (4, .int r8)] [] h13 0 0 := by
          intro uu_171 hf
          rw [ej_171] at hf
          refine e_aload_n (pc := 171) C dX8_cutAt_171 0 rfl rfl ?_
          obtain ⟨t22, hf⟩ := ck_e hf
          refine e_getr (pc := 172) 8 2 C dX8_cutAt_172 (by decide) (by decide) g184 rfl t22 ?_
          obtain ⟨b23, eb23, hf⟩ := ob_e hf
          refine e_rf eb23 ?_
          refine e_aload_n (pc := 175) C dX8_cutAt_175 0 rfl rfl ?_
          refine e_geti (pc := 176) 8 5 C dX8_cutAt_176 (by decide) (by decide) g187 rfl t22 ?_
          refine e_iload (pc := 179) C dX8_cutAt_179 1 rfl ?_
          refine e_bipush (v := (60 : Int32)) (pc := 181) C dX8_cutAt_181 (by decide) ?_
          obtain ⟨j_195, ej_195, hf⟩ := nn_e hf
          have W_195 : ∀ (s0_195 : Int32), j_195 s0_195 = some y → EE G p l e ({ frames := 6, cells := 0, slots := 0, locals := 135 } : Room) s m args below meth c (none, y) 0 0 195 [] [.int s0_195, .int (m_i h13 v0 5), .ref b23] h13 0 0 := by
            intro s0_195 hf
            rw [ej_195] at hf
            obtain ⟨q24, hf⟩ := ck_e hf
            obtain ⟨n25, tn25, in25⟩ := ix_e q24
            refine e_iast (pc := 195) C dX8_cutAt_195 tn25 in25 ?_
            obtain ⟨h26, eh26, hf⟩ := nn_e hf
            refine e_hp eh26 ?_
            have uh26 : m_t h26 = m_t h13 := by rw [eh26]; exact rfl
            refine e_goto (pc := 196) (tgt := 211) C dX8_cutAt_196 (by decide) ?_
            obtain rfl := so_e hf
            exact e_vret (pc := 211) C hr dX8_cutAt_211 (Nat.le_of_ble_eq_true rfl) (Nat.le_of_ble_eq_true rfl)
          rcases it_e hf with ⟨c27, hf⟩ | ⟨c27, hf⟩
          · refine e_icmp_ne (pc := 183) (tgt := 192) C dX8_cutAt_183 (by decide) (fun q => absurd c27 q) (fun _ => ?_)
            refine e_sipush (v := (259 : Int32)) (pc := 186) C dX8_cutAt_186 (by decide) ?_
            refine e_goto (pc := 189) (tgt := 195) C dX8_cutAt_189 (by decide) ?_
            refine e_lv (lv2 := []) [] rfl ?_
            exact W_195 (259 : Int32) hf
          · refine e_icmp_ne (pc := 183) (tgt := 192) C dX8_cutAt_183 (by decide) (fun _ => ?_) (fun q => absurd q c27)
            refine e_sipush (v := (260 : Int32)) (pc := 192) C dX8_cutAt_192 (by decide) ?_
            refine e_lv (lv2 := []) [] rfl ?_
            exact W_195 (260 : Int32) hf
        rcases it_e hf with ⟨c28, hf⟩ | ⟨c28, hf⟩
        · refine e_icmp_eq (pc := 161) (tgt := 171) C dX8_cutAt_161 (by decide) (fun _ => ?_) (fun q => absurd c28 q)
          refine e_lv (lv2 := [(0, .ref v0), (4, .int r8)]) [2, 0] rfl ?_
          exact W_171 () hf
        · refine e_icmp_eq (pc := 161) (tgt := 171) C dX8_cutAt_161 (by decide) (fun q => absurd q c28) (fun _ => ?_)
          refine e_iload (pc := 164) C dX8_cutAt_164 0 rfl ?_
          refine e_bipush (v := (62 : Int32)) (pc := 166) C dX8_cutAt_166 (by decide) ?_
          rcases it_e hf with ⟨c29, hf⟩ | ⟨c29, hf⟩
          · refine e_icmp_ne (pc := 168) (tgt := 199) C dX8_cutAt_168 (by decide) (fun q => absurd c29 q) (fun _ => ?_)
            refine e_lv (lv2 := [(0, .ref v0), (4, .int r8)]) [2, 0] rfl ?_
            exact W_171 () hf
          · refine e_icmp_ne (pc := 168) (tgt := 199) C dX8_cutAt_168 (by decide) (fun _ => ?_) (fun q => absurd q c29)
            refine e_lv (lv2 := [(0, .ref v0), (1, .int v1), (3, .int r4)]) [2, 3, 1] rfl ?_
            exact W_199 () hf
      · refine e_icmp_ne (pc := 154) (tgt := 199) C dX8_cutAt_154 (by decide) (fun _ => ?_) (fun q => absurd q c21)
        refine e_lv (lv2 := [(0, .ref v0), (1, .int v1), (3, .int r4)]) [2, 3, 1] rfl ?_
        exact W_199 () hf
    · refine e_if_eq (pc := 90) (tgt := 151) C dX8_cutAt_90 (by decide) (fun q => absurd q c16) (fun _ => ?_)
      refine e_iload (pc := 93) C dX8_cutAt_93 0 rfl ?_
      obtain ⟨r32, h30, y31, hf⟩ := cb_e hf
      refine e_callSi (pc := 95) (st := []) C (ct_X8_isLetter y31) dX8_cutAt_95 g655 g656 g147 g657 hd_X8_isLetter rfl ⟨Nat.le_of_ble_eq_true rfl, Nat.le_of_ble_eq_true rfl⟩ ⟨Nat.le_of_ble_eq_true rfl, Nat.le_of_ble_eq_true rfl⟩ rfl (Nat.le_of_ble_eq_true rfl) ?_
      obtain ⟨j_109, ej_109, hf⟩ := nn_e hf
      have W_109 : ∀ (h_109 : AH), j_109 h_109 = some y → EE G p l e ({ frames := 6, cells := 0, slots := 0, locals := 135 } : Room) s m args below meth c (none, y) 0 0 109 [(0, .ref v0), (1, .int v1), (2, .ref v2)] [] h_109 0 0 := by
        intro h_109 hf
        rw [ej_109] at hf
        refine e_aload_n (pc := 109) C dX8_cutAt_109 0 rfl rfl ?_
        refine e_iload_n (pc := 110) C dX8_cutAt_110 1 rfl rfl ?_
        refine e_iconst (v := (1 : Int32)) (pc := 111) C dX8_cutAt_111 (by decide) ?_
        refine e_iadd (pc := 112) C dX8_cutAt_112 ?_
        obtain ⟨t33, hf⟩ := ck_e hf
        obtain ⟨r36, h34, y35, hf⟩ := cb_e hf
        refine e_callVi (pc := 113) (st := []) 8 C (ct_X8_byteAt y35) dX8_cutAt_113 (by decide) t33 g644 g646 g1 g147 g647 hd_X8_byteAt rfl ⟨Nat.le_of_ble_eq_true rfl, Nat.le_of_ble_eq_true rfl⟩ ⟨Nat.le_of_ble_eq_true rfl, Nat.le_of_ble_eq_true rfl⟩ rfl (Nat.le_of_ble_eq_true rfl) ?_
        obtain ⟨r39, h37, y38, hf⟩ := cb_e hf
        refine e_callSi (pc := 116) (st := []) C (ct_X8_isLetter y38) dX8_cutAt_116 g655 g656 g147 g657 hd_X8_isLetter rfl ⟨Nat.le_of_ble_eq_true rfl, Nat.le_of_ble_eq_true rfl⟩ ⟨Nat.le_of_ble_eq_true rfl, Nat.le_of_ble_eq_true rfl⟩ rfl (Nat.le_of_ble_eq_true rfl) ?_
        rcases it_e hf with ⟨c40, hf⟩ | ⟨c40, hf⟩
        · refine e_if_ne (pc := 119) (tgt := 211) C dX8_cutAt_119 (by decide) (fun q => absurd c40 q) (fun _ => ?_)
          refine e_aload_n (pc := 122) C dX8_cutAt_122 0 rfl rfl ?_
          obtain ⟨t41, hf⟩ := ck_e hf
          refine e_getr (pc := 123) 8 2 C dX8_cutAt_123 (by decide) (by decide) g184 rfl t41 ?_
          obtain ⟨b42, eb42, hf⟩ := ob_e hf
          refine e_rf eb42 ?_
          refine e_aload_n (pc := 126) C dX8_cutAt_126 0 rfl rfl ?_
          refine e_geti (pc := 127) 8 5 C dX8_cutAt_127 (by decide) (by decide) g187 rfl t41 ?_
          refine e_aload_n (pc := 130) C dX8_cutAt_130 0 rfl rfl ?_
          refine e_aload_n (pc := 131) C dX8_cutAt_131 2 rfl rfl ?_
          refine e_aload_n (pc := 132) C dX8_cutAt_132 0 rfl rfl ?_
          refine e_getr (pc := 133) 8 3 C dX8_cutAt_133 (by decide) (by decide) g185 rfl t41 ?_
          obtain ⟨b43, eb43, hf⟩ := ob_e hf
          refine e_rf eb43 ?_
          refine e_aload_n (pc := 136) C dX8_cutAt_136 0 rfl rfl ?_
          refine e_geti (pc := 137) 8 5 C dX8_cutAt_137 (by decide) (by decide) g187 rfl t41 ?_
          obtain ⟨q44, hf⟩ := ck_e hf
          obtain ⟨n45, tn45, in45⟩ := ix_e q44
          refine e_iald (pc := 140) C dX8_cutAt_140 tn45 in45 ?_
          refine e_iload_n (pc := 141) C dX8_cutAt_141 1 rfl rfl ?_
          refine e_iconst (v := (1 : Int32)) (pc := 142) C dX8_cutAt_142 (by decide) ?_
          refine e_iadd (pc := 143) C dX8_cutAt_143 ?_
          obtain ⟨r48, h46, y47, hf⟩ := cb_e hf
          refine e_callVi (pc := 144) (st := [.int (m_i h37 v0 5), .ref b42]) 8 C (ct_X8_wordIn y47) dX8_cutAt_144 (by decide) t41 g658 g660 g3 g147 g661 hd_X8_wordIn rfl ⟨Nat.le_of_ble_eq_true rfl, Nat.le_of_ble_eq_true rfl⟩ ⟨Nat.le_of_ble_eq_true rfl, Nat.le_of_ble_eq_true rfl⟩ rfl (Nat.le_of_ble_eq_true rfl) ?_
          obtain ⟨q49, hf⟩ := ck_e hf
          obtain ⟨n50, tn50, in50⟩ := ix_e q49
          refine e_iast (pc := 147) C dX8_cutAt_147 tn50 in50 ?_
          obtain ⟨h51, eh51, hf⟩ := nn_e hf
          refine e_hp eh51 ?_
          have uh51 : m_t h51 = m_t h46 := by rw [eh51]; exact rfl
          refine e_goto (pc := 148) (tgt := 211) C dX8_cutAt_148 (by decide) ?_
          obtain rfl := so_e hf
          exact e_vret (pc := 211) C hr dX8_cutAt_211 (Nat.le_of_ble_eq_true rfl) (Nat.le_of_ble_eq_true rfl)
        · refine e_if_ne (pc := 119) (tgt := 211) C dX8_cutAt_119 (by decide) (fun _ => ?_) (fun q => absurd q c40)
          obtain rfl := so_e hf
          exact e_vret (pc := 211) C hr dX8_cutAt_211 (Nat.le_of_ble_eq_true rfl) (Nat.le_of_ble_eq_true rfl)
      rcases it_e hf with ⟨c52, hf⟩ | ⟨c52, hf⟩
      · refine e_if_ne (pc := 98) (tgt := 109) C dX8_cutAt_98 (by decide) (fun q => absurd c52 q) (fun _ => ?_)
        refine e_aload_n (pc := 101) C dX8_cutAt_101 2 rfl rfl ?_
        refine e_sipush (v := (258 : Int32)) (pc := 102) C dX8_cutAt_102 (by decide) ?_
        refine e_iload_n (pc := 105) C dX8_cutAt_105 3 rfl rfl ?_
        obtain ⟨t53, hf⟩ := ck_e hf
        obtain ⟨h54, y55, hf⟩ := ob_e hf
        refine e_callVv (pc := 106) (st := []) 8 C (ct_X8_put y55) dX8_cutAt_106 (by decide) t53 g651 g653 g2 g147 g654 hd_X8_put rfl ⟨Nat.le_of_ble_eq_true rfl, Nat.le_of_ble_eq_true rfl⟩ ⟨Nat.le_of_ble_eq_true rfl, Nat.le_of_ble_eq_true rfl⟩ rfl (Nat.le_of_ble_eq_true rfl) ?_
        refine e_lv (lv2 := [(0, .ref v0), (1, .int v1), (2, .ref v2)]) [2, 3, 4] rfl ?_
        exact W_109 h54 hf
      · refine e_if_ne (pc := 98) (tgt := 109) C dX8_cutAt_98 (by decide) (fun _ => ?_) (fun q => absurd q c52)
        refine e_lv (lv2 := [(0, .ref v0), (1, .int v1), (2, .ref v2)]) [2, 3, 4] rfl ?_
        exact W_109 h30 hf
  · refine e_if_eq (pc := 19) (tgt := 86) C dX8_cutAt_19 (by decide) (fun q => absurd q c12) (fun _ => ?_)
    refine e_iload (pc := 22) C dX8_cutAt_22 0 rfl ?_
    obtain ⟨r58, h56, y57, hf⟩ := cb_e hf
    refine e_callSi (pc := 24) (st := []) C (ct_X8_isDigit y57) dX8_cutAt_24 g648 g649 g147 g650 hd_X8_isDigit rfl ⟨Nat.le_of_ble_eq_true rfl, Nat.le_of_ble_eq_true rfl⟩ ⟨Nat.le_of_ble_eq_true rfl, Nat.le_of_ble_eq_true rfl⟩ rfl (Nat.le_of_ble_eq_true rfl) ?_
    obtain ⟨j_38, ej_38, hf⟩ := nn_e hf
    have W_38 : ∀ (h_38 : AH), j_38 h_38 = some y → EE G p l e ({ frames := 6, cells := 0, slots := 0, locals := 135 } : Room) s m args below meth c (none, y) 0 0 38 [(0, .ref v0), (1, .int v1), (3, .int r4)] [] h_38 0 0 := by
      intro h_38 hf
      rw [ej_38] at hf
      refine e_aload_n (pc := 38) C dX8_cutAt_38 0 rfl rfl ?_
      obtain ⟨t59, hf⟩ := ck_e hf
      refine e_getr (pc := 39) 8 4 C dX8_cutAt_39 (by decide) (by decide) g186 rfl t59 ?_
      obtain ⟨b60, eb60, hf⟩ := ob_e hf
      refine e_rf eb60 ?_
      refine e_aload_n (pc := 42) C dX8_cutAt_42 0 rfl rfl ?_
      refine e_geti (pc := 43) 8 5 C dX8_cutAt_43 (by decide) (by decide) g187 rfl t59 ?_
      refine e_iload_n (pc := 46) C dX8_cutAt_46 1 rfl rfl ?_
      refine e_aload_n (pc := 47) C dX8_cutAt_47 0 rfl rfl ?_
      refine e_getr (pc := 48) 8 3 C dX8_cutAt_48 (by decide) (by decide) g185 rfl t59 ?_
      obtain ⟨b61, eb61, hf⟩ := ob_e hf
      refine e_rf eb61 ?_
      refine e_aload_n (pc := 51) C dX8_cutAt_51 0 rfl rfl ?_
      refine e_geti (pc := 52) 8 5 C dX8_cutAt_52 (by decide) (by decide) g187 rfl t59 ?_
      obtain ⟨q62, hf⟩ := ck_e hf
      obtain ⟨n63, tn63, in63⟩ := ix_e q62
      refine e_iald (pc := 55) C dX8_cutAt_55 tn63 in63 ?_
      refine e_isub (pc := 56) C dX8_cutAt_56 ?_
      refine e_iconst (v := (5 : Int32)) (pc := 57) C dX8_cutAt_57 (by decide) ?_
      obtain ⟨j_82, ej_82, hf⟩ := nn_e hf
      have W_82 : ∀ (s0_82 : Int32), j_82 s0_82 = some y → EE G p l e ({ frames := 6, cells := 0, slots := 0, locals := 135 } : Room) s m args below meth c (none, y) 0 0 82 [] [.int s0_82, .int (m_i h_38 v0 5), .ref b60] h_38 0 0 := by
        intro s0_82 hf
        rw [ej_82] at hf
        obtain ⟨q64, hf⟩ := ck_e hf
        obtain ⟨n65, tn65, in65⟩ := ix_e q64
        refine e_iast (pc := 82) C dX8_cutAt_82 tn65 in65 ?_
        obtain ⟨h66, eh66, hf⟩ := nn_e hf
        refine e_hp eh66 ?_
        have uh66 : m_t h66 = m_t h_38 := by rw [eh66]; exact rfl
        refine e_goto (pc := 83) (tgt := 211) C dX8_cutAt_83 (by decide) ?_
        obtain rfl := so_e hf
        exact e_vret (pc := 211) C hr dX8_cutAt_211 (Nat.le_of_ble_eq_true rfl) (Nat.le_of_ble_eq_true rfl)
      rcases it_e hf with ⟨c67, hf⟩ | ⟨c67, hf⟩
      · refine e_icmp_ge (pc := 58) (tgt := 81) C dX8_cutAt_58 (by decide) (fun _ => ?_) (fun q => absurd c67 q)
        refine e_iconst (v := (-1 : Int32)) (pc := 81) C dX8_cutAt_81 (by decide) ?_
        refine e_lv (lv2 := []) [] rfl ?_
        exact W_82 (-1 : Int32) hf
      · refine e_icmp_ge (pc := 58) (tgt := 81) C dX8_cutAt_58 (by decide) (fun q => absurd q c67) (fun _ => ?_)
        refine e_aload_n (pc := 61) C dX8_cutAt_61 0 rfl rfl ?_
        refine e_getr (pc := 62) 8 4 C dX8_cutAt_62 (by decide) (by decide) g186 rfl t59 ?_
        obtain ⟨b68, eb68, hf⟩ := ob_e hf
        refine e_rf eb68 ?_
        refine e_aload_n (pc := 65) C dX8_cutAt_65 0 rfl rfl ?_
        refine e_geti (pc := 66) 8 5 C dX8_cutAt_66 (by decide) (by decide) g187 rfl t59 ?_
        obtain ⟨q69, hf⟩ := ck_e hf
        obtain ⟨n70, tn70, in70⟩ := ix_e q69
        refine e_iald (pc := 69) C dX8_cutAt_69 tn70 in70 ?_
        refine e_bipush (v := (10 : Int32)) (pc := 70) C dX8_cutAt_70 (by decide) ?_
        refine e_imul (pc := 72) C dX8_cutAt_72 ?_
        refine e_iload_n (pc := 73) C dX8_cutAt_73 2 rfl rfl ?_
        refine e_iadd (pc := 74) C dX8_cutAt_74 ?_
        refine e_bipush (v := (48 : Int32)) (pc := 75) C dX8_cutAt_75 (by decide) ?_
        refine e_isub (pc := 77) C dX8_cutAt_77 ?_
        refine e_goto (pc := 78) (tgt := 82) C dX8_cutAt_78 (by decide) ?_
        refine e_lv (lv2 := []) [] rfl ?_
        exact W_82 ((((m_i h_38 b68 (m_i h_38 v0 5).toNatClampNeg) * (10 : Int32)) + r4) - (48 : Int32)) hf
    rcases it_e hf with ⟨c71, hf⟩ | ⟨c71, hf⟩
    · refine e_if_ne (pc := 27) (tgt := 38) C dX8_cutAt_27 (by decide) (fun q => absurd c71 q) (fun _ => ?_)
      refine e_aload_n (pc := 30) C dX8_cutAt_30 2 rfl rfl ?_
      refine e_sipush (v := (256 : Int32)) (pc := 31) C dX8_cutAt_31 (by decide) ?_
      refine e_iload_n (pc := 34) C dX8_cutAt_34 3 rfl rfl ?_
      obtain ⟨t72, hf⟩ := ck_e hf
      obtain ⟨h73, y74, hf⟩ := ob_e hf
      refine e_callVv (pc := 35) (st := []) 8 C (ct_X8_put y74) dX8_cutAt_35 (by decide) t72 g651 g653 g2 g147 g654 hd_X8_put rfl ⟨Nat.le_of_ble_eq_true rfl, Nat.le_of_ble_eq_true rfl⟩ ⟨Nat.le_of_ble_eq_true rfl, Nat.le_of_ble_eq_true rfl⟩ rfl (Nat.le_of_ble_eq_true rfl) ?_
      refine e_lv (lv2 := [(0, .ref v0), (1, .int v1), (3, .int r4)]) [2, 3, 1] rfl ?_
      exact W_38 h73 hf
    · refine e_if_ne (pc := 27) (tgt := 38) C dX8_cutAt_27 (by decide) (fun _ => ?_) (fun q => absurd q c71)
      refine e_lv (lv2 := [(0, .ref v0), (1, .int v1), (3, .int r4)]) [2, 3, 1] rfl ?_
      exact W_38 h56 hf
theorem dX8_advance_0 : decode cX8_advance 0 = .ok (.aload_n 0, 1) := by decide +kernel
theorem dX8_advance_1 : decode cX8_advance 1 = .ok (.getfield 32, 3) := by decide +kernel
theorem dX8_advance_4 : decode cX8_advance 4 = .ok (.aload_n 0, 1) := by decide +kernel
theorem dX8_advance_5 : decode cX8_advance 5 = .ok (.getfield 29, 3) := by decide +kernel
theorem dX8_advance_8 : decode cX8_advance 8 = .ok (.if_icmp .ge 39, 3) := by decide +kernel
theorem dX8_advance_11 : decode cX8_advance 11 = .ok (.aload_n 0, 1) := by decide +kernel
theorem dX8_advance_12 : decode cX8_advance 12 = .ok (.dup, 1) := by decide +kernel
theorem dX8_advance_13 : decode cX8_advance 13 = .ok (.getfield 32, 3) := by decide +kernel
theorem dX8_advance_16 : decode cX8_advance 16 = .ok (.iconst 1, 1) := by decide +kernel
theorem dX8_advance_17 : decode cX8_advance 17 = .ok (.iadd, 1) := by decide +kernel
theorem dX8_advance_18 : decode cX8_advance 18 = .ok (.putfield 32, 3) := by decide +kernel
theorem dX8_advance_21 : decode cX8_advance 21 = .ok (.aload_n 0, 1) := by decide +kernel
theorem dX8_advance_22 : decode cX8_advance 22 = .ok (.aload_n 0, 1) := by decide +kernel
theorem dX8_advance_23 : decode cX8_advance 23 = .ok (.getfield 19, 3) := by decide +kernel
theorem dX8_advance_26 : decode cX8_advance 26 = .ok (.aload_n 0, 1) := by decide +kernel
theorem dX8_advance_27 : decode cX8_advance 27 = .ok (.getfield 32, 3) := by decide +kernel
theorem dX8_advance_30 : decode cX8_advance 30 = .ok (.iaload, 1) := by decide +kernel
theorem dX8_advance_31 : decode cX8_advance 31 = .ok (.putfield 35, 3) := by decide +kernel
theorem dX8_advance_34 : decode cX8_advance 34 = .ok (.aload_n 0, 1) := by decide +kernel
theorem dX8_advance_35 : decode cX8_advance 35 = .ok (.aload_n 0, 1) := by decide +kernel
theorem dX8_advance_36 : decode cX8_advance 36 = .ok (.getfield 26, 3) := by decide +kernel
theorem dX8_advance_39 : decode cX8_advance 39 = .ok (.aload_n 0, 1) := by decide +kernel
theorem dX8_advance_40 : decode cX8_advance 40 = .ok (.getfield 32, 3) := by decide +kernel
theorem dX8_advance_43 : decode cX8_advance 43 = .ok (.iaload, 1) := by decide +kernel
theorem dX8_advance_44 : decode cX8_advance 44 = .ok (.putfield 38, 3) := by decide +kernel
theorem dX8_advance_47 : decode cX8_advance 47 = .ok (.return_, 1) := by decide +kernel
def f_X8_advance (G : GG) (v0 : Nat) (h : AH) : Option (AH) :=
ck (m_t h v0 = .inl 8) <|
if (m_i h v0 5) ≤ (m_i h v0 6) then (some h) else
nn (m_si h v0 6 ((m_i h v0 6) + (1 : Int32))) fun h3 =>
ob (m_r h3 v0 2) fun b4 =>
ck (ixb h3 b4 .int (m_i h3 v0 6) = true) <|
nn (m_si h3 v0 7 (m_i h3 b4 (m_i h3 v0 6).toNatClampNeg)) fun h7 =>
ob (m_r h7 v0 4) fun b8 =>
ck (ixb h7 b8 .int (m_i h7 v0 6) = true) <|
nn (m_si h7 v0 8 (m_i h7 b8 (m_i h7 v0 6).toNatClampNeg)) fun h11 =>
some h11
set_option maxHeartbeats 4000000 in
set_option maxRecDepth 100000 in
theorem ct_X8_advance {G : GG} {l : Launch} {v0 : Nat} {h : AH} {y : AH} (hf : f_X8_advance G v0 h = some y) : Ct G l yX8_advance cX8_advance 1 none 0 0 0 0 [.ref v0] h (none, y) := by
  refine ct_of (by decide) (Nat.le_of_ble_eq_true rfl) ?_
  intro p e s m args below meth c C hm hr hin
  have C : Cx G cX8_advance RX8 p s m args meth c := C
  refine e_lv (lv2 := [(0, .ref v0)]) [0] rfl ?_
  unfold f_X8_advance at hf
  refine e_aload_n (pc := 0) C dX8_advance_0 0 rfl rfl ?_
  obtain ⟨t1, hf⟩ := ck_e hf
  refine e_geti (pc := 1) 8 6 C dX8_advance_1 (by decide) (by decide) g188 rfl t1 ?_
  refine e_aload_n (pc := 4) C dX8_advance_4 0 rfl rfl ?_
  refine e_geti (pc := 5) 8 5 C dX8_advance_5 (by decide) (by decide) g187 rfl t1 ?_
  rcases it_e hf with ⟨c2, hf⟩ | ⟨c2, hf⟩
  · refine e_icmp_ge (pc := 8) (tgt := 47) C dX8_advance_8 (by decide) (fun _ => ?_) (fun q => absurd c2 q)
    obtain rfl := so_e hf
    exact e_vret (pc := 47) C hr dX8_advance_47 (Nat.le_of_ble_eq_true rfl) (Nat.le_of_ble_eq_true rfl)
  · refine e_icmp_ge (pc := 8) (tgt := 47) C dX8_advance_8 (by decide) (fun q => absurd q c2) (fun _ => ?_)
    refine e_aload_n (pc := 11) C dX8_advance_11 0 rfl rfl ?_
    refine e_dup (pc := 12) C dX8_advance_12 rfl ?_
    refine e_geti (pc := 13) 8 6 C dX8_advance_13 (by decide) (by decide) g188 rfl t1 ?_
    refine e_iconst (v := (1 : Int32)) (pc := 16) C dX8_advance_16 (by decide) ?_
    refine e_iadd (pc := 17) C dX8_advance_17 ?_
    refine e_puti (pc := 18) 8 6 C dX8_advance_18 (by decide) (by decide) g188 rfl rfl rfl rfl t1 ?_
    obtain ⟨h3, eh3, hf⟩ := nn_e hf
    refine e_hp eh3 ?_
    have uh3 : m_t h3 = m_t h := by rw [eh3]; exact rfl
    refine e_aload_n (pc := 21) C dX8_advance_21 0 rfl rfl ?_
    refine e_aload_n (pc := 22) C dX8_advance_22 0 rfl rfl ?_
    refine e_getr (pc := 23) 8 2 C dX8_advance_23 (by decide) (by decide) g184 rfl (e_mt uh3 t1) ?_
    obtain ⟨b4, eb4, hf⟩ := ob_e hf
    refine e_rf eb4 ?_
    refine e_aload_n (pc := 26) C dX8_advance_26 0 rfl rfl ?_
    refine e_geti (pc := 27) 8 6 C dX8_advance_27 (by decide) (by decide) g188 rfl (e_mt uh3 t1) ?_
    obtain ⟨q5, hf⟩ := ck_e hf
    obtain ⟨n6, tn6, in6⟩ := ix_e q5
    refine e_iald (pc := 30) C dX8_advance_30 tn6 in6 ?_
    refine e_puti (pc := 31) 8 7 C dX8_advance_31 (by decide) (by decide) g189 rfl rfl rfl rfl (e_mt uh3 t1) ?_
    obtain ⟨h7, eh7, hf⟩ := nn_e hf
    refine e_hp eh7 ?_
    have uh7 : m_t h7 = m_t h := by rw [eh7]; exact uh3
    refine e_aload_n (pc := 34) C dX8_advance_34 0 rfl rfl ?_
    refine e_aload_n (pc := 35) C dX8_advance_35 0 rfl rfl ?_
    refine e_getr (pc := 36) 8 4 C dX8_advance_36 (by decide) (by decide) g186 rfl (e_mt uh7 t1) ?_
    obtain ⟨b8, eb8, hf⟩ := ob_e hf
    refine e_rf eb8 ?_
    refine e_aload_n (pc := 39) C dX8_advance_39 0 rfl rfl ?_
    refine e_geti (pc := 40) 8 6 C dX8_advance_40 (by decide) (by decide) g188 rfl (e_mt uh7 t1) ?_
    obtain ⟨q9, hf⟩ := ck_e hf
    obtain ⟨n10, tn10, in10⟩ := ix_e q9
    refine e_iald (pc := 43) C dX8_advance_43 tn10 in10 ?_
    refine e_puti (pc := 44) 8 8 C dX8_advance_44 (by decide) (by decide) g192 rfl rfl rfl rfl (e_mt uh7 t1) ?_
    obtain ⟨h11, eh11, hf⟩ := nn_e hf
    refine e_hp eh11 ?_
    have uh11 : m_t h11 = m_t h := by rw [eh11]; exact uh7
    obtain rfl := so_e hf
    exact e_vret (pc := 47) C hr dX8_advance_47 (Nat.le_of_ble_eq_true rfl) (Nat.le_of_ble_eq_true rfl)
theorem dX8_open_0 : decode cX8_open 0 = .ok (.aload_n 0, 1) := by decide +kernel
theorem dX8_open_1 : decode cX8_open 1 = .ok (.iconst (-1), 1) := by decide +kernel
theorem dX8_open_2 : decode cX8_open 2 = .ok (.putfield 29, 3) := by decide +kernel
theorem dX8_open_5 : decode cX8_open 5 = .ok (.iconst 0, 1) := by decide +kernel
theorem dX8_open_6 : decode cX8_open 6 = .ok (.istore_n 2, 1) := by decide +kernel
theorem dX8_open_7 : decode cX8_open 7 = .ok (.iload_n 2, 1) := by decide +kernel
theorem dX8_open_8 : decode cX8_open 8 = .ok (.aload_n 0, 1) := by decide +kernel
theorem dX8_open_9 : decode cX8_open 9 = .ok (.getfield 15, 3) := by decide +kernel
theorem dX8_open_12 : decode cX8_open 12 = .ok (.if_icmp .ge 15, 3) := by decide +kernel
theorem dX8_open_15 : decode cX8_open 15 = .ok (.aload_n 0, 1) := by decide +kernel
theorem dX8_open_16 : decode cX8_open 16 = .ok (.iload_n 2, 1) := by decide +kernel
theorem dX8_open_17 : decode cX8_open 17 = .ok (.aload_n 1, 1) := by decide +kernel
theorem dX8_open_18 : decode cX8_open 18 = .ok (.invokevirtual 44, 3) := by decide +kernel
theorem dX8_open_21 : decode cX8_open 21 = .ok (.iinc 2 1, 3) := by decide +kernel
theorem dX8_open_24 : decode cX8_open 24 = .ok (.goto (-17), 3) := by decide +kernel
theorem dX8_open_27 : decode cX8_open 27 = .ok (.aload_n 0, 1) := by decide +kernel
theorem dX8_open_28 : decode cX8_open 28 = .ok (.sipush 257, 3) := by decide +kernel
theorem dX8_open_31 : decode cX8_open 31 = .ok (.aload_n 0, 1) := by decide +kernel
theorem dX8_open_32 : decode cX8_open 32 = .ok (.getfield 15, 3) := by decide +kernel
theorem dX8_open_35 : decode cX8_open 35 = .ok (.invokevirtual 48, 3) := by decide +kernel
theorem dX8_open_38 : decode cX8_open 38 = .ok (.aload_n 0, 1) := by decide +kernel
theorem dX8_open_39 : decode cX8_open 39 = .ok (.iconst 0, 1) := by decide +kernel
theorem dX8_open_40 : decode cX8_open 40 = .ok (.putfield 41, 3) := by decide +kernel
theorem dX8_open_43 : decode cX8_open 43 = .ok (.aload_n 0, 1) := by decide +kernel
theorem dX8_open_44 : decode cX8_open 44 = .ok (.iconst (-1), 1) := by decide +kernel
theorem dX8_open_45 : decode cX8_open 45 = .ok (.putfield 32, 3) := by decide +kernel
theorem dX8_open_48 : decode cX8_open 48 = .ok (.aload_n 0, 1) := by decide +kernel
theorem dX8_open_49 : decode cX8_open 49 = .ok (.invokevirtual 52, 3) := by decide +kernel
theorem dX8_open_52 : decode cX8_open 52 = .ok (.return_, 1) := by decide +kernel
def F_X8_open_7 (G : GG) (v0 : Nat) (v1 : Nat) (K_27 : AH → Option (AH)) (self_7 : Int32 → AH → Option (AH)) (v2 : Int32) (h : AH) : Option (AH) :=
ck (m_t h v0 = .inl 8) <|
if (m_i h v0 1) ≤ v2 then (K_27 h) else
ob (f_X8_cutAt G v0 v2 v1 h) fun h5 =>
nn (v2 + (1 : Int32)) fun x7 =>
self_7 x7 h5
def f_X8_open (G : GG) (v0 : Nat) (v1 : Nat) (h : AH) : Option (AH) :=
ck (m_t h v0 = .inl 8) <|
nn (m_si h v0 5 (-1 : Int32)) fun h2 =>
lq1 (F_X8_open_7 G v0 v1 (fun (h_27 : AH) => (ck (m_t h_27 v0 = .inl 8) <|
ob (f_X8_put G v0 (257 : Int32) (m_i h_27 v0 1) h_27) fun h9 =>
ck (m_t h9 v0 = .inl 8) <|
nn (m_si h9 v0 9 (0 : Int32)) fun h12 =>
nn (m_si h12 v0 6 (-1 : Int32)) fun h13 =>
ob (f_X8_advance G v0 h13) fun h14 =>
some h14))) bN (0 : Int32) h2
set_option maxHeartbeats 4000000 in
set_option maxRecDepth 100000 in
theorem el_X8_open_7 {G : GG} {p : Program} {l : Launch} {e : Env} {s : State} {m : MethodId} {args : Array Value} {below : List Frame} {meth : Method} {c : Code} {y : AH} (C : Cx G cX8_open RX8 p s m args meth c) (hm : c.maxLocals = 3) (hr : meth.sig.returnType = none) (hin : meth.name = yX8_open.name) {v0 : Nat} {v1 : Nat} {K_27 : AH → Option (AH)} (hK_27 : ∀ (h : AH), K_27 h = some y → EE G p l e ({ frames := 7, cells := 0, slots := 0, locals := 159 } : Room) s m args below meth c (none, y) 0 0 27 [(0, .ref v0)] [] h 0 0) :
    ∀ (n : Nat) (v2 : Int32) (h : AH), lq1 (F_X8_open_7 G v0 v1 K_27) n v2 h = some y → EE G p l e ({ frames := 7, cells := 0, slots := 0, locals := 159 } : Room) s m args below meth c (none, y) 0 0 7 [(0, .ref v0), (1, .ref v1), (2, .int v2)] [] h 0 0 := by
  intro n
  induction n with
  | zero => intro v2 h hf; exact (no_e hf).elim
  | succ n ih_7 =>
    intro v2 h hf
    have hf : F_X8_open_7 G v0 v1 K_27 (lq1 (F_X8_open_7 G v0 v1 K_27) n) v2 h = some y := hf
    generalize lq1 (F_X8_open_7 G v0 v1 K_27) n = self_7 at hf ih_7
    unfold F_X8_open_7 at hf
    refine e_iload_n (pc := 7) C dX8_open_7 2 rfl rfl ?_
    refine e_aload_n (pc := 8) C dX8_open_8 0 rfl rfl ?_
    obtain ⟨t3, hf⟩ := ck_e hf
    refine e_geti (pc := 9) 8 1 C dX8_open_9 (by decide) (by decide) g182 rfl t3 ?_
    rcases it_e hf with ⟨c4, hf⟩ | ⟨c4, hf⟩
    · refine e_icmp_ge (pc := 12) (tgt := 27) C dX8_open_12 (by decide) (fun _ => ?_) (fun q => absurd c4 q)
      refine e_lv (lv2 := [(0, .ref v0)]) [0] rfl ?_
      exact hK_27 h hf
    · refine e_icmp_ge (pc := 12) (tgt := 27) C dX8_open_12 (by decide) (fun q => absurd q c4) (fun _ => ?_)
      refine e_aload_n (pc := 15) C dX8_open_15 0 rfl rfl ?_
      refine e_iload_n (pc := 16) C dX8_open_16 2 rfl rfl ?_
      refine e_aload_n (pc := 17) C dX8_open_17 1 rfl rfl ?_
      obtain ⟨h5, y6, hf⟩ := ob_e hf
      refine e_callVv (pc := 18) (st := []) 8 C (ct_X8_cutAt y6) dX8_open_18 (by decide) t3 g640 g642 g0 g147 g643 hd_X8_cutAt rfl ⟨Nat.le_of_ble_eq_true rfl, Nat.le_of_ble_eq_true rfl⟩ ⟨Nat.le_of_ble_eq_true rfl, Nat.le_of_ble_eq_true rfl⟩ rfl (Nat.le_of_ble_eq_true rfl) ?_
      obtain ⟨x7, ex7, hf⟩ := nn_e hf
      refine e_iinc (pc := 21) (v := x7) (lv2 := [(2, .int x7), (0, .ref v0), (1, .ref v1)]) C hm dX8_open_21 2 rfl (by rw [ex7]; rfl) (by decide) rfl ?_
      refine e_goto (pc := 24) (tgt := 7) C dX8_open_24 (by decide) ?_
      refine e_lv (lv2 := [(0, .ref v0), (1, .ref v1), (2, .int x7)]) [1, 2, 0] rfl ?_
      exact ih_7 x7 h5 hf
set_option maxHeartbeats 4000000 in
set_option maxRecDepth 100000 in
theorem ct_X8_open {G : GG} {l : Launch} {v0 : Nat} {v1 : Nat} {h : AH} {y : AH} (hf : f_X8_open G v0 v1 h = some y) : Ct G l yX8_open cX8_open 3 none 7 159 0 0 [.ref v0, .ref v1] h (none, y) := by
  refine ct_of (by decide) (Nat.le_of_ble_eq_true rfl) ?_
  intro p e s m args below meth c C hm hr hin
  have C : Cx G cX8_open RX8 p s m args meth c := C
  refine e_lv (lv2 := [(0, .ref v0), (1, .ref v1)]) [0, 1] rfl ?_
  unfold f_X8_open at hf
  refine e_aload_n (pc := 0) C dX8_open_0 0 rfl rfl ?_
  refine e_iconst (v := (-1 : Int32)) (pc := 1) C dX8_open_1 (by decide) ?_
  obtain ⟨t1, hf⟩ := ck_e hf
  refine e_puti (pc := 2) 8 5 C dX8_open_2 (by decide) (by decide) g187 rfl rfl rfl rfl t1 ?_
  obtain ⟨h2, eh2, hf⟩ := nn_e hf
  refine e_hp eh2 ?_
  have uh2 : m_t h2 = m_t h := by rw [eh2]; exact rfl
  refine e_iconst (v := (0 : Int32)) (pc := 5) C dX8_open_5 (by decide) ?_
  refine e_istore_n (pc := 6) (lv2 := [(2, .int (0 : Int32)), (0, .ref v0), (1, .ref v1)]) C hm dX8_open_6 rfl (by decide) rfl ?_
  refine e_lv (lv2 := [(0, .ref v0), (1, .ref v1), (2, .int (0 : Int32))]) [1, 2, 0] rfl ?_
  refine el_X8_open_7 C hm hr hin (fun h_27 hf => ?_) bN (0 : Int32) h2 hf
  refine e_aload_n (pc := 27) C dX8_open_27 0 rfl rfl ?_
  refine e_sipush (v := (257 : Int32)) (pc := 28) C dX8_open_28 (by decide) ?_
  refine e_aload_n (pc := 31) C dX8_open_31 0 rfl rfl ?_
  obtain ⟨t8, hf⟩ := ck_e hf
  refine e_geti (pc := 32) 8 1 C dX8_open_32 (by decide) (by decide) g182 rfl t8 ?_
  obtain ⟨h9, y10, hf⟩ := ob_e hf
  refine e_callVv (pc := 35) (st := []) 8 C (ct_X8_put y10) dX8_open_35 (by decide) t8 g651 g653 g2 g147 g654 hd_X8_put rfl ⟨Nat.le_of_ble_eq_true rfl, Nat.le_of_ble_eq_true rfl⟩ ⟨Nat.le_of_ble_eq_true rfl, Nat.le_of_ble_eq_true rfl⟩ rfl (Nat.le_of_ble_eq_true rfl) ?_
  refine e_aload_n (pc := 38) C dX8_open_38 0 rfl rfl ?_
  refine e_iconst (v := (0 : Int32)) (pc := 39) C dX8_open_39 (by decide) ?_
  obtain ⟨t11, hf⟩ := ck_e hf
  refine e_puti (pc := 40) 8 9 C dX8_open_40 (by decide) (by decide) g194 rfl rfl rfl rfl t11 ?_
  obtain ⟨h12, eh12, hf⟩ := nn_e hf
  refine e_hp eh12 ?_
  have uh12 : m_t h12 = m_t h9 := by rw [eh12]; exact rfl
  refine e_aload_n (pc := 43) C dX8_open_43 0 rfl rfl ?_
  refine e_iconst (v := (-1 : Int32)) (pc := 44) C dX8_open_44 (by decide) ?_
  refine e_puti (pc := 45) 8 6 C dX8_open_45 (by decide) (by decide) g188 rfl rfl rfl rfl (e_mt uh12 t11) ?_
  obtain ⟨h13, eh13, hf⟩ := nn_e hf
  refine e_hp eh13 ?_
  have uh13 : m_t h13 = m_t h9 := by rw [eh13]; exact uh12
  refine e_aload_n (pc := 48) C dX8_open_48 0 rfl rfl ?_
  obtain ⟨h14, y15, hf⟩ := ob_e hf
  refine e_callVv (pc := 49) (st := []) 8 C (ct_X8_advance y15) dX8_open_49 (by decide) (e_mt uh13 t11) g714 g715 g716 g147 g717 hd_X8_advance rfl ⟨Nat.le_of_ble_eq_true rfl, Nat.le_of_ble_eq_true rfl⟩ ⟨Nat.le_of_ble_eq_true rfl, Nat.le_of_ble_eq_true rfl⟩ rfl (Nat.le_of_ble_eq_true rfl) ?_
  obtain rfl := so_e hf
  exact e_vret (pc := 52) C hr dX8_open_52 (Nat.le_of_ble_eq_true rfl) (Nat.le_of_ble_eq_true rfl)
theorem dX8_fail_0 : decode cX8_fail 0 = .ok (.aload_n 0, 1) := by decide +kernel
theorem dX8_fail_1 : decode cX8_fail 1 = .ok (.getfield 41, 3) := by decide +kernel
theorem dX8_fail_4 : decode cX8_fail 4 = .ok (.ifCond .ne 23, 3) := by decide +kernel
theorem dX8_fail_7 : decode cX8_fail 7 = .ok (.aload_n 0, 1) := by decide +kernel
theorem dX8_fail_8 : decode cX8_fail 8 = .ok (.iconst 1, 1) := by decide +kernel
theorem dX8_fail_9 : decode cX8_fail 9 = .ok (.bipush 8, 2) := by decide +kernel
theorem dX8_fail_11 : decode cX8_fail 11 = .ok (.aload_n 0, 1) := by decide +kernel
theorem dX8_fail_12 : decode cX8_fail 12 = .ok (.getfield 23, 3) := by decide +kernel
theorem dX8_fail_15 : decode cX8_fail 15 = .ok (.aload_n 0, 1) := by decide +kernel
theorem dX8_fail_16 : decode cX8_fail 16 = .ok (.getfield 32, 3) := by decide +kernel
theorem dX8_fail_19 : decode cX8_fail 19 = .ok (.iaload, 1) := by decide +kernel
theorem dX8_fail_20 : decode cX8_fail 20 = .ok (.imul, 1) := by decide +kernel
theorem dX8_fail_21 : decode cX8_fail 21 = .ok (.iadd, 1) := by decide +kernel
theorem dX8_fail_22 : decode cX8_fail 22 = .ok (.iload_n 1, 1) := by decide +kernel
theorem dX8_fail_23 : decode cX8_fail 23 = .ok (.iadd, 1) := by decide +kernel
theorem dX8_fail_24 : decode cX8_fail 24 = .ok (.putfield 41, 3) := by decide +kernel
theorem dX8_fail_27 : decode cX8_fail 27 = .ok (.return_, 1) := by decide +kernel
def f_X8_fail (G : GG) (v0 : Nat) (v1 : Int32) (h : AH) : Option (AH) :=
ck (m_t h v0 = .inl 8) <|
if (m_i h v0 9) = 0 then (ob (m_r h v0 3) fun b3 =>
ck (ixb h b3 .int (m_i h v0 6) = true) <|
nn (m_si h v0 9 (((1 : Int32) + ((8 : Int32) * (m_i h b3 (m_i h v0 6).toNatClampNeg))) + v1)) fun h6 =>
some h6) else
some h
set_option maxHeartbeats 4000000 in
set_option maxRecDepth 100000 in
theorem ct_X8_fail {G : GG} {l : Launch} {v0 : Nat} {v1 : Int32} {h : AH} {y : AH} (hf : f_X8_fail G v0 v1 h = some y) : Ct G l yX8_fail cX8_fail 2 none 0 0 0 0 [.ref v0, .int v1] h (none, y) := by
  refine ct_of (by decide) (Nat.le_of_ble_eq_true rfl) ?_
  intro p e s m args below meth c C hm hr hin
  have C : Cx G cX8_fail RX8 p s m args meth c := C
  refine e_lv (lv2 := [(0, .ref v0), (1, .int v1)]) [0, 1] rfl ?_
  unfold f_X8_fail at hf
  refine e_aload_n (pc := 0) C dX8_fail_0 0 rfl rfl ?_
  obtain ⟨t1, hf⟩ := ck_e hf
  refine e_geti (pc := 1) 8 9 C dX8_fail_1 (by decide) (by decide) g194 rfl t1 ?_
  rcases it_e hf with ⟨c2, hf⟩ | ⟨c2, hf⟩
  · refine e_if_ne (pc := 4) (tgt := 27) C dX8_fail_4 (by decide) (fun q => absurd c2 q) (fun _ => ?_)
    refine e_aload_n (pc := 7) C dX8_fail_7 0 rfl rfl ?_
    refine e_iconst (v := (1 : Int32)) (pc := 8) C dX8_fail_8 (by decide) ?_
    refine e_bipush (v := (8 : Int32)) (pc := 9) C dX8_fail_9 (by decide) ?_
    refine e_aload_n (pc := 11) C dX8_fail_11 0 rfl rfl ?_
    refine e_getr (pc := 12) 8 3 C dX8_fail_12 (by decide) (by decide) g185 rfl t1 ?_
    obtain ⟨b3, eb3, hf⟩ := ob_e hf
    refine e_rf eb3 ?_
    refine e_aload_n (pc := 15) C dX8_fail_15 0 rfl rfl ?_
    refine e_geti (pc := 16) 8 6 C dX8_fail_16 (by decide) (by decide) g188 rfl t1 ?_
    obtain ⟨q4, hf⟩ := ck_e hf
    obtain ⟨n5, tn5, in5⟩ := ix_e q4
    refine e_iald (pc := 19) C dX8_fail_19 tn5 in5 ?_
    refine e_imul (pc := 20) C dX8_fail_20 ?_
    refine e_iadd (pc := 21) C dX8_fail_21 ?_
    refine e_iload_n (pc := 22) C dX8_fail_22 1 rfl rfl ?_
    refine e_iadd (pc := 23) C dX8_fail_23 ?_
    refine e_puti (pc := 24) 8 9 C dX8_fail_24 (by decide) (by decide) g194 rfl rfl rfl rfl t1 ?_
    obtain ⟨h6, eh6, hf⟩ := nn_e hf
    refine e_hp eh6 ?_
    have uh6 : m_t h6 = m_t h := by rw [eh6]; exact rfl
    obtain rfl := so_e hf
    exact e_vret (pc := 27) C hr dX8_fail_27 (Nat.le_of_ble_eq_true rfl) (Nat.le_of_ble_eq_true rfl)
  · refine e_if_ne (pc := 4) (tgt := 27) C dX8_fail_4 (by decide) (fun _ => ?_) (fun q => absurd q c2)
    obtain rfl := so_e hf
    exact e_vret (pc := 27) C hr dX8_fail_27 (Nat.le_of_ble_eq_true rfl) (Nat.le_of_ble_eq_true rfl)
theorem dX8_takeNumber_0 : decode cX8_takeNumber 0 = .ok (.aload_n 0, 1) := by decide +kernel
theorem dX8_takeNumber_1 : decode cX8_takeNumber 1 = .ok (.getfield 35, 3) := by decide +kernel
theorem dX8_takeNumber_4 : decode cX8_takeNumber 4 = .ok (.sipush 256, 3) := by decide +kernel
theorem dX8_takeNumber_7 : decode cX8_takeNumber 7 = .ok (.if_icmp .eq 11, 3) := by decide +kernel
theorem dX8_takeNumber_10 : decode cX8_takeNumber 10 = .ok (.aload_n 0, 1) := by decide +kernel
theorem dX8_takeNumber_11 : decode cX8_takeNumber 11 = .ok (.iconst 0, 1) := by decide +kernel
theorem dX8_takeNumber_12 : decode cX8_takeNumber 12 = .ok (.invokevirtual 55, 3) := by decide +kernel
theorem dX8_takeNumber_15 : decode cX8_takeNumber 15 = .ok (.goto 24, 3) := by decide +kernel
theorem dX8_takeNumber_18 : decode cX8_takeNumber 18 = .ok (.aload_n 0, 1) := by decide +kernel
theorem dX8_takeNumber_19 : decode cX8_takeNumber 19 = .ok (.getfield 38, 3) := by decide +kernel
theorem dX8_takeNumber_22 : decode cX8_takeNumber 22 = .ok (.iload_n 1, 1) := by decide +kernel
theorem dX8_takeNumber_23 : decode cX8_takeNumber 23 = .ok (.if_icmp .lt 11, 3) := by decide +kernel
theorem dX8_takeNumber_26 : decode cX8_takeNumber 26 = .ok (.aload_n 0, 1) := by decide +kernel
theorem dX8_takeNumber_27 : decode cX8_takeNumber 27 = .ok (.getfield 38, 3) := by decide +kernel
theorem dX8_takeNumber_30 : decode cX8_takeNumber 30 = .ok (.iload_n 2, 1) := by decide +kernel
theorem dX8_takeNumber_31 : decode cX8_takeNumber 31 = .ok (.if_icmp .le 8, 3) := by decide +kernel
theorem dX8_takeNumber_34 : decode cX8_takeNumber 34 = .ok (.aload_n 0, 1) := by decide +kernel
theorem dX8_takeNumber_35 : decode cX8_takeNumber 35 = .ok (.iconst 1, 1) := by decide +kernel
theorem dX8_takeNumber_36 : decode cX8_takeNumber 36 = .ok (.invokevirtual 55, 3) := by decide +kernel
theorem dX8_takeNumber_39 : decode cX8_takeNumber 39 = .ok (.aload_n 0, 1) := by decide +kernel
theorem dX8_takeNumber_40 : decode cX8_takeNumber 40 = .ok (.getfield 41, 3) := by decide +kernel
theorem dX8_takeNumber_43 : decode cX8_takeNumber 43 = .ok (.ifCond .eq 5, 3) := by decide +kernel
theorem dX8_takeNumber_46 : decode cX8_takeNumber 46 = .ok (.iconst (-1), 1) := by decide +kernel
theorem dX8_takeNumber_47 : decode cX8_takeNumber 47 = .ok (.ireturn, 1) := by decide +kernel
theorem dX8_takeNumber_48 : decode cX8_takeNumber 48 = .ok (.aload_n 0, 1) := by decide +kernel
theorem dX8_takeNumber_49 : decode cX8_takeNumber 49 = .ok (.getfield 38, 3) := by decide +kernel
theorem dX8_takeNumber_52 : decode cX8_takeNumber 52 = .ok (.istore_n 3, 1) := by decide +kernel
theorem dX8_takeNumber_53 : decode cX8_takeNumber 53 = .ok (.aload_n 0, 1) := by decide +kernel
theorem dX8_takeNumber_54 : decode cX8_takeNumber 54 = .ok (.invokevirtual 52, 3) := by decide +kernel
theorem dX8_takeNumber_57 : decode cX8_takeNumber 57 = .ok (.iload_n 3, 1) := by decide +kernel
theorem dX8_takeNumber_58 : decode cX8_takeNumber 58 = .ok (.ireturn, 1) := by decide +kernel
def f_X8_takeNumber (G : GG) (v0 : Nat) (v1 : Int32) (v2 : Int32) (h : AH) : Option (Int32 × AH) :=
ck (m_t h v0 = .inl 8) <|
nn (fun (h_39 : AH) => (ck (m_t h_39 v0 = .inl 8) <|
if (m_i h_39 v0 9) = 0 then (nn (m_i h_39 v0 8) fun x4 =>
ob (f_X8_advance G v0 h_39) fun h5 =>
some (x4, h5)) else
some ((-1 : Int32), h_39))) fun j_39 =>
if (m_i h v0 7) = (256 : Int32) then (nn (fun (uu_34 : Unit) => (ob (f_X8_fail G v0 (1 : Int32) h) fun h8 =>
j_39 h8)) fun j_34 =>
if (m_i h v0 8) < v1 then (j_34 ()) else
if (m_i h v0 8) ≤ v2 then (j_39 h) else
j_34 ()) else
ob (f_X8_fail G v0 (0 : Int32) h) fun h12 =>
j_39 h12
set_option maxHeartbeats 4000000 in
set_option maxRecDepth 100000 in
theorem ct_X8_takeNumber {G : GG} {l : Launch} {v0 : Nat} {v1 : Int32} {v2 : Int32} {h : AH} {y : Int32 × AH} (hf : f_X8_takeNumber G v0 v1 v2 h = some y) : Ct G l yX8_takeNumber cX8_takeNumber 4 (some .int) 1 21 0 0 [.ref v0, .int v1, .int v2] h (some (.int y.1), y.2) := by
  refine ct_of (by decide) (Nat.le_of_ble_eq_true rfl) ?_
  intro p e s m args below meth c C hm hr hin
  have C : Cx G cX8_takeNumber RX8 p s m args meth c := C
  refine e_lv (lv2 := [(0, .ref v0), (1, .int v1), (2, .int v2)]) [0, 1, 2] rfl ?_
  unfold f_X8_takeNumber at hf
  refine e_aload_n (pc := 0) C dX8_takeNumber_0 0 rfl rfl ?_
  obtain ⟨t1, hf⟩ := ck_e hf
  refine e_geti (pc := 1) 8 7 C dX8_takeNumber_1 (by decide) (by decide) g189 rfl t1 ?_
  refine e_sipush (v := (256 : Int32)) (pc := 4) C dX8_takeNumber_4 (by decide) ?_
  obtain ⟨j_39, ej_39, hf⟩ := nn_e hf
  have W_39 : ∀ (h_39 : AH), j_39 h_39 = some y → EE G p l e ({ frames := 1, cells := 0, slots := 0, locals := 21 } : Room) s m args below meth c (some (.int y.1), y.2) 0 0 39 [(0, .ref v0)] [] h_39 0 0 := by
    intro h_39 hf
    rw [ej_39] at hf
    refine e_aload_n (pc := 39) C dX8_takeNumber_39 0 rfl rfl ?_
    obtain ⟨t2, hf⟩ := ck_e hf
    refine e_geti (pc := 40) 8 9 C dX8_takeNumber_40 (by decide) (by decide) g194 rfl t2 ?_
    rcases it_e hf with ⟨c3, hf⟩ | ⟨c3, hf⟩
    · refine e_if_eq (pc := 43) (tgt := 48) C dX8_takeNumber_43 (by decide) (fun _ => ?_) (fun q => absurd c3 q)
      refine e_aload_n (pc := 48) C dX8_takeNumber_48 0 rfl rfl ?_
      refine e_geti (pc := 49) 8 8 C dX8_takeNumber_49 (by decide) (by decide) g192 rfl t2 ?_
      obtain ⟨x4, ex4, hf⟩ := nn_e hf
      refine e_topi ex4 ?_
      refine e_istore_n (pc := 52) (lv2 := [(3, .int x4), (0, .ref v0)]) C hm dX8_takeNumber_52 rfl (by decide) rfl ?_
      refine e_aload_n (pc := 53) C dX8_takeNumber_53 1 rfl rfl ?_
      obtain ⟨h5, y6, hf⟩ := ob_e hf
      refine e_callVv (pc := 54) (st := []) 8 C (ct_X8_advance y6) dX8_takeNumber_54 (by decide) t2 g714 g715 g716 g147 g717 hd_X8_advance rfl ⟨Nat.le_of_ble_eq_true rfl, Nat.le_of_ble_eq_true rfl⟩ ⟨Nat.le_of_ble_eq_true rfl, Nat.le_of_ble_eq_true rfl⟩ rfl (Nat.le_of_ble_eq_true rfl) ?_
      refine e_iload_n (pc := 57) C dX8_takeNumber_57 0 rfl rfl ?_
      obtain rfl := so_e hf
      exact e_iret (pc := 58) C hr dX8_takeNumber_58 (Nat.le_of_ble_eq_true rfl) (Nat.le_of_ble_eq_true rfl)
    · refine e_if_eq (pc := 43) (tgt := 48) C dX8_takeNumber_43 (by decide) (fun q => absurd q c3) (fun _ => ?_)
      refine e_iconst (v := (-1 : Int32)) (pc := 46) C dX8_takeNumber_46 (by decide) ?_
      obtain rfl := so_e hf
      exact e_iret (pc := 47) C hr dX8_takeNumber_47 (Nat.le_of_ble_eq_true rfl) (Nat.le_of_ble_eq_true rfl)
  rcases it_e hf with ⟨c7, hf⟩ | ⟨c7, hf⟩
  · refine e_icmp_eq (pc := 7) (tgt := 18) C dX8_takeNumber_7 (by decide) (fun _ => ?_) (fun q => absurd c7 q)
    refine e_aload_n (pc := 18) C dX8_takeNumber_18 0 rfl rfl ?_
    refine e_geti (pc := 19) 8 8 C dX8_takeNumber_19 (by decide) (by decide) g192 rfl t1 ?_
    refine e_iload_n (pc := 22) C dX8_takeNumber_22 1 rfl rfl ?_
    obtain ⟨j_34, ej_34, hf⟩ := nn_e hf
    have W_34 : ∀ (uu_34 : Unit), j_34 uu_34 = some y → EE G p l e ({ frames := 1, cells := 0, slots := 0, locals := 21 } : Room) s m args below meth c (some (.int y.1), y.2) 0 0 34 [(0, .ref v0)] [] h 0 0 := by
      intro uu_34 hf
      rw [ej_34] at hf
      refine e_aload_n (pc := 34) C dX8_takeNumber_34 0 rfl rfl ?_
      refine e_iconst (v := (1 : Int32)) (pc := 35) C dX8_takeNumber_35 (by decide) ?_
      obtain ⟨h8, y9, hf⟩ := ob_e hf
      refine e_callVv (pc := 36) (st := []) 8 C (ct_X8_fail y9) dX8_takeNumber_36 (by decide) t1 g739 g723 g724 g147 g725 hd_X8_fail rfl ⟨Nat.le_of_ble_eq_true rfl, Nat.le_of_ble_eq_true rfl⟩ ⟨Nat.le_of_ble_eq_true rfl, Nat.le_of_ble_eq_true rfl⟩ rfl (Nat.le_of_ble_eq_true rfl) ?_
      exact W_39 h8 hf
    rcases it_e hf with ⟨c10, hf⟩ | ⟨c10, hf⟩
    · refine e_icmp_lt (pc := 23) (tgt := 34) C dX8_takeNumber_23 (by decide) (fun _ => ?_) (fun q => absurd c10 q)
      refine e_lv (lv2 := [(0, .ref v0)]) [0] rfl ?_
      exact W_34 () hf
    · refine e_icmp_lt (pc := 23) (tgt := 34) C dX8_takeNumber_23 (by decide) (fun q => absurd q c10) (fun _ => ?_)
      refine e_aload_n (pc := 26) C dX8_takeNumber_26 0 rfl rfl ?_
      refine e_geti (pc := 27) 8 8 C dX8_takeNumber_27 (by decide) (by decide) g192 rfl t1 ?_
      refine e_iload_n (pc := 30) C dX8_takeNumber_30 2 rfl rfl ?_
      rcases it_e hf with ⟨c11, hf⟩ | ⟨c11, hf⟩
      · refine e_icmp_le (pc := 31) (tgt := 39) C dX8_takeNumber_31 (by decide) (fun _ => ?_) (fun q => absurd c11 q)
        refine e_lv (lv2 := [(0, .ref v0)]) [0] rfl ?_
        exact W_39 h hf
      · refine e_icmp_le (pc := 31) (tgt := 39) C dX8_takeNumber_31 (by decide) (fun q => absurd q c11) (fun _ => ?_)
        refine e_lv (lv2 := [(0, .ref v0)]) [0] rfl ?_
        exact W_34 () hf
  · refine e_icmp_eq (pc := 7) (tgt := 18) C dX8_takeNumber_7 (by decide) (fun q => absurd q c7) (fun _ => ?_)
    refine e_aload_n (pc := 10) C dX8_takeNumber_10 0 rfl rfl ?_
    refine e_iconst (v := (0 : Int32)) (pc := 11) C dX8_takeNumber_11 (by decide) ?_
    obtain ⟨h12, y13, hf⟩ := ob_e hf
    refine e_callVv (pc := 12) (st := []) 8 C (ct_X8_fail y13) dX8_takeNumber_12 (by decide) t1 g739 g723 g724 g147 g725 hd_X8_fail rfl ⟨Nat.le_of_ble_eq_true rfl, Nat.le_of_ble_eq_true rfl⟩ ⟨Nat.le_of_ble_eq_true rfl, Nat.le_of_ble_eq_true rfl⟩ rfl (Nat.le_of_ble_eq_true rfl) ?_
    refine e_goto (pc := 15) (tgt := 39) C dX8_takeNumber_15 (by decide) ?_
    refine e_lv (lv2 := [(0, .ref v0)]) [0] rfl ?_
    exact W_39 h12 hf
theorem dX8_takeByte_0 : decode cX8_takeByte 0 = .ok (.aload_n 0, 1) := by decide +kernel
theorem dX8_takeByte_1 : decode cX8_takeByte 1 = .ok (.getfield 35, 3) := by decide +kernel
theorem dX8_takeByte_4 : decode cX8_takeByte 4 = .ok (.iload_n 1, 1) := by decide +kernel
theorem dX8_takeByte_5 : decode cX8_takeByte 5 = .ok (.if_icmp .ne 10, 3) := by decide +kernel
theorem dX8_takeByte_8 : decode cX8_takeByte 8 = .ok (.aload_n 0, 1) := by decide +kernel
theorem dX8_takeByte_9 : decode cX8_takeByte 9 = .ok (.invokevirtual 52, 3) := by decide +kernel
theorem dX8_takeByte_12 : decode cX8_takeByte 12 = .ok (.goto 8, 3) := by decide +kernel
theorem dX8_takeByte_15 : decode cX8_takeByte 15 = .ok (.aload_n 0, 1) := by decide +kernel
theorem dX8_takeByte_16 : decode cX8_takeByte 16 = .ok (.iconst 0, 1) := by decide +kernel
theorem dX8_takeByte_17 : decode cX8_takeByte 17 = .ok (.invokevirtual 55, 3) := by decide +kernel
theorem dX8_takeByte_20 : decode cX8_takeByte 20 = .ok (.return_, 1) := by decide +kernel
def f_X8_takeByte (G : GG) (v0 : Nat) (v1 : Int32) (h : AH) : Option (AH) :=
ck (m_t h v0 = .inl 8) <|
if (m_i h v0 7) = v1 then (ob (f_X8_advance G v0 h) fun h3 =>
some h3) else
ob (f_X8_fail G v0 (0 : Int32) h) fun h5 =>
some h5
set_option maxHeartbeats 4000000 in
set_option maxRecDepth 100000 in
theorem ct_X8_takeByte {G : GG} {l : Launch} {v0 : Nat} {v1 : Int32} {h : AH} {y : AH} (hf : f_X8_takeByte G v0 v1 h = some y) : Ct G l yX8_takeByte cX8_takeByte 2 none 1 21 0 0 [.ref v0, .int v1] h (none, y) := by
  refine ct_of (by decide) (Nat.le_of_ble_eq_true rfl) ?_
  intro p e s m args below meth c C hm hr hin
  have C : Cx G cX8_takeByte RX8 p s m args meth c := C
  refine e_lv (lv2 := [(0, .ref v0), (1, .int v1)]) [0, 1] rfl ?_
  unfold f_X8_takeByte at hf
  refine e_aload_n (pc := 0) C dX8_takeByte_0 0 rfl rfl ?_
  obtain ⟨t1, hf⟩ := ck_e hf
  refine e_geti (pc := 1) 8 7 C dX8_takeByte_1 (by decide) (by decide) g189 rfl t1 ?_
  refine e_iload_n (pc := 4) C dX8_takeByte_4 1 rfl rfl ?_
  rcases it_e hf with ⟨c2, hf⟩ | ⟨c2, hf⟩
  · refine e_icmp_ne (pc := 5) (tgt := 15) C dX8_takeByte_5 (by decide) (fun q => absurd c2 q) (fun _ => ?_)
    refine e_aload_n (pc := 8) C dX8_takeByte_8 0 rfl rfl ?_
    obtain ⟨h3, y4, hf⟩ := ob_e hf
    refine e_callVv (pc := 9) (st := []) 8 C (ct_X8_advance y4) dX8_takeByte_9 (by decide) t1 g714 g715 g716 g147 g717 hd_X8_advance rfl ⟨Nat.le_of_ble_eq_true rfl, Nat.le_of_ble_eq_true rfl⟩ ⟨Nat.le_of_ble_eq_true rfl, Nat.le_of_ble_eq_true rfl⟩ rfl (Nat.le_of_ble_eq_true rfl) ?_
    refine e_goto (pc := 12) (tgt := 20) C dX8_takeByte_12 (by decide) ?_
    obtain rfl := so_e hf
    exact e_vret (pc := 20) C hr dX8_takeByte_20 (Nat.le_of_ble_eq_true rfl) (Nat.le_of_ble_eq_true rfl)
  · refine e_icmp_ne (pc := 5) (tgt := 15) C dX8_takeByte_5 (by decide) (fun _ => ?_) (fun q => absurd q c2)
    refine e_aload_n (pc := 15) C dX8_takeByte_15 0 rfl rfl ?_
    refine e_iconst (v := (0 : Int32)) (pc := 16) C dX8_takeByte_16 (by decide) ?_
    obtain ⟨h5, y6, hf⟩ := ob_e hf
    refine e_callVv (pc := 17) (st := []) 8 C (ct_X8_fail y6) dX8_takeByte_17 (by decide) t1 g739 g723 g724 g147 g725 hd_X8_fail rfl ⟨Nat.le_of_ble_eq_true rfl, Nat.le_of_ble_eq_true rfl⟩ ⟨Nat.le_of_ble_eq_true rfl, Nat.le_of_ble_eq_true rfl⟩ rfl (Nat.le_of_ble_eq_true rfl) ?_
    obtain rfl := so_e hf
    exact e_vret (pc := 20) C hr dX8_takeByte_20 (Nat.le_of_ble_eq_true rfl) (Nat.le_of_ble_eq_true rfl)
theorem dX9_init_0 : decode cX9_init 0 = .ok (.aload_n 0, 1) := by decide +kernel
theorem dX9_init_1 : decode cX9_init 1 = .ok (.invokespecial 3, 3) := by decide +kernel
theorem dX9_init_4 : decode cX9_init 4 = .ok (.aload_n 0, 1) := by decide +kernel
theorem dX9_init_5 : decode cX9_init 5 = .ok (.iconst 0, 1) := by decide +kernel
theorem dX9_init_6 : decode cX9_init 6 = .ok (.putfield 9, 3) := by decide +kernel
theorem dX9_init_9 : decode cX9_init 9 = .ok (.aload_n 0, 1) := by decide +kernel
theorem dX9_init_10 : decode cX9_init 10 = .ok (.iconst 0, 1) := by decide +kernel
theorem dX9_init_11 : decode cX9_init 11 = .ok (.putfield 15, 3) := by decide +kernel
theorem dX9_init_14 : decode cX9_init 14 = .ok (.aload_n 0, 1) := by decide +kernel
theorem dX9_init_15 : decode cX9_init 15 = .ok (.iconst 0, 1) := by decide +kernel
theorem dX9_init_16 : decode cX9_init 16 = .ok (.putfield 19, 3) := by decide +kernel
theorem dX9_init_19 : decode cX9_init 19 = .ok (.aload_n 0, 1) := by decide +kernel
theorem dX9_init_20 : decode cX9_init 20 = .ok (.iconst 0, 1) := by decide +kernel
theorem dX9_init_21 : decode cX9_init 21 = .ok (.putfield 22, 3) := by decide +kernel
theorem dX9_init_24 : decode cX9_init 24 = .ok (.aload_n 0, 1) := by decide +kernel
theorem dX9_init_25 : decode cX9_init 25 = .ok (.iconst 0, 1) := by decide +kernel
theorem dX9_init_26 : decode cX9_init 26 = .ok (.putfield 25, 3) := by decide +kernel
theorem dX9_init_29 : decode cX9_init 29 = .ok (.aload_n 0, 1) := by decide +kernel
theorem dX9_init_30 : decode cX9_init 30 = .ok (.iconst 0, 1) := by decide +kernel
theorem dX9_init_31 : decode cX9_init 31 = .ok (.putfield 28, 3) := by decide +kernel
theorem dX9_init_34 : decode cX9_init 34 = .ok (.aload_n 0, 1) := by decide +kernel
theorem dX9_init_35 : decode cX9_init 35 = .ok (.bipush 8, 2) := by decide +kernel
theorem dX9_init_37 : decode cX9_init 37 = .ok (.anewarray 31, 3) := by decide +kernel
theorem dX9_init_40 : decode cX9_init 40 = .ok (.putfield 33, 3) := by decide +kernel
theorem dX9_init_43 : decode cX9_init 43 = .ok (.aload_n 0, 1) := by decide +kernel
theorem dX9_init_44 : decode cX9_init 44 = .ok (.iconst 0, 1) := by decide +kernel
theorem dX9_init_45 : decode cX9_init 45 = .ok (.putfield 37, 3) := by decide +kernel
theorem dX9_init_48 : decode cX9_init 48 = .ok (.aload_n 0, 1) := by decide +kernel
theorem dX9_init_49 : decode cX9_init 49 = .ok (.iconst 5, 1) := by decide +kernel
theorem dX9_init_50 : decode cX9_init 50 = .ok (.newarray .int, 2) := by decide +kernel
theorem dX9_init_52 : decode cX9_init 52 = .ok (.putfield 40, 3) := by decide +kernel
theorem dX9_init_55 : decode cX9_init 55 = .ok (.aload_n 0, 1) := by decide +kernel
theorem dX9_init_56 : decode cX9_init 56 = .ok (.iconst 5, 1) := by decide +kernel
theorem dX9_init_57 : decode cX9_init 57 = .ok (.newarray .int, 2) := by decide +kernel
theorem dX9_init_59 : decode cX9_init 59 = .ok (.putfield 44, 3) := by decide +kernel
theorem dX9_init_62 : decode cX9_init 62 = .ok (.aload_n 0, 1) := by decide +kernel
theorem dX9_init_63 : decode cX9_init 63 = .ok (.iconst 0, 1) := by decide +kernel
theorem dX9_init_64 : decode cX9_init 64 = .ok (.putfield 47, 3) := by decide +kernel
theorem dX9_init_67 : decode cX9_init 67 = .ok (.aload_n 0, 1) := by decide +kernel
theorem dX9_init_68 : decode cX9_init 68 = .ok (.iconst 5, 1) := by decide +kernel
theorem dX9_init_69 : decode cX9_init 69 = .ok (.newarray .int, 2) := by decide +kernel
theorem dX9_init_71 : decode cX9_init 71 = .ok (.putfield 50, 3) := by decide +kernel
theorem dX9_init_74 : decode cX9_init 74 = .ok (.aload_n 0, 1) := by decide +kernel
theorem dX9_init_75 : decode cX9_init 75 = .ok (.iconst 5, 1) := by decide +kernel
theorem dX9_init_76 : decode cX9_init 76 = .ok (.newarray .int, 2) := by decide +kernel
theorem dX9_init_78 : decode cX9_init 78 = .ok (.putfield 53, 3) := by decide +kernel
theorem dX9_init_81 : decode cX9_init 81 = .ok (.aload_n 0, 1) := by decide +kernel
theorem dX9_init_82 : decode cX9_init 82 = .ok (.iconst 5, 1) := by decide +kernel
theorem dX9_init_83 : decode cX9_init 83 = .ok (.newarray .int, 2) := by decide +kernel
theorem dX9_init_85 : decode cX9_init 85 = .ok (.putfield 56, 3) := by decide +kernel
theorem dX9_init_88 : decode cX9_init 88 = .ok (.iconst 0, 1) := by decide +kernel
theorem dX9_init_89 : decode cX9_init 89 = .ok (.istore_n 1, 1) := by decide +kernel
theorem dX9_init_90 : decode cX9_init 90 = .ok (.iload_n 1, 1) := by decide +kernel
theorem dX9_init_91 : decode cX9_init 91 = .ok (.bipush 8, 2) := by decide +kernel
theorem dX9_init_93 : decode cX9_init 93 = .ok (.if_icmp .ge 22, 3) := by decide +kernel
theorem dX9_init_96 : decode cX9_init 96 = .ok (.aload_n 0, 1) := by decide +kernel
theorem dX9_init_97 : decode cX9_init 97 = .ok (.getfield 33, 3) := by decide +kernel
theorem dX9_init_100 : decode cX9_init 100 = .ok (.iload_n 1, 1) := by decide +kernel
theorem dX9_init_101 : decode cX9_init 101 = .ok (.new 31, 3) := by decide +kernel
theorem dX9_init_104 : decode cX9_init 104 = .ok (.dup, 1) := by decide +kernel
theorem dX9_init_105 : decode cX9_init 105 = .ok (.invokespecial 59, 3) := by decide +kernel
theorem dX9_init_108 : decode cX9_init 108 = .ok (.aastore, 1) := by decide +kernel
theorem dX9_init_109 : decode cX9_init 109 = .ok (.iinc 1 1, 3) := by decide +kernel
theorem dX9_init_112 : decode cX9_init 112 = .ok (.goto (-22), 3) := by decide +kernel
theorem dX9_init_115 : decode cX9_init 115 = .ok (.return_, 1) := by decide +kernel
def f_X9_init (G : GG) (v0 : Nat) (h : AH) : Option (AH) :=
ck (m_t h v0 = .inl 9) <|
nn (m_si h v0 0 (0 : Int32)) fun h2 =>
nn (m_si h2 v0 1 (0 : Int32)) fun h3 =>
nn (m_si h3 v0 2 (0 : Int32)) fun h4 =>
nn (m_si h4 v0 3 (0 : Int32)) fun h5 =>
nn (m_si h5 v0 4 (0 : Int32)) fun h6 =>
nn (m_si h6 v0 5 (0 : Int32)) fun h7 =>
nn (m_n h7) fun x8 =>
nn (m_new h7 (.inr ((.object RX5), 8))) fun h9 =>
ck (m_t h9 v0 = .inl 9) <|
nn (m_sr h9 v0 6 (some x8)) fun h11 =>
nn (m_si h11 v0 7 (0 : Int32)) fun h12 =>
nn (m_n h12) fun x13 =>
nn (m_new h12 (.inr (.int, 5))) fun h14 =>
ck (m_t h14 v0 = .inl 9) <|
nn (m_sr h14 v0 8 (some x13)) fun h16 =>
nn (m_n h16) fun x17 =>
nn (m_new h16 (.inr (.int, 5))) fun h18 =>
ck (m_t h18 v0 = .inl 9) <|
nn (m_sr h18 v0 9 (some x17)) fun h20 =>
nn (m_si h20 v0 10 (0 : Int32)) fun h21 =>
nn (m_n h21) fun x22 =>
nn (m_new h21 (.inr (.int, 5))) fun h23 =>
ck (m_t h23 v0 = .inl 9) <|
nn (m_sr h23 v0 11 (some x22)) fun h25 =>
nn (m_n h25) fun x26 =>
nn (m_new h25 (.inr (.int, 5))) fun h27 =>
ck (m_t h27 v0 = .inl 9) <|
nn (m_sr h27 v0 12 (some x26)) fun h29 =>
nn (m_n h29) fun x30 =>
nn (m_new h29 (.inr (.int, 5))) fun h31 =>
ck (m_t h31 v0 = .inl 9) <|
nn (m_sr h31 v0 13 (some x30)) fun h33 =>
ob (m_r h33 v0 6) fun b34 =>
nn (m_n h33) fun x35 =>
nn (m_new h33 (.inl 5)) fun h36 =>
ob (f_X5_init G x35 h36) fun h37 =>
ck (m_t h37 x35 = .inl 5) <|
ck (ixb h37 b34 (.object RX5) (0 : Int32) = true) <|
nn (m_sr h37 b34 (0 : Int32).toNatClampNeg (some x35)) fun h42 =>
ck (m_t h42 v0 = .inl 9) <|
ob (m_r h42 v0 6) fun b44 =>
nn (m_n h42) fun x45 =>
nn (m_new h42 (.inl 5)) fun h46 =>
ob (f_X5_init G x45 h46) fun h47 =>
ck (m_t h47 x45 = .inl 5) <|
ck (ixb h47 b44 (.object RX5) (1 : Int32) = true) <|
nn (m_sr h47 b44 (1 : Int32).toNatClampNeg (some x45)) fun h52 =>
ck (m_t h52 v0 = .inl 9) <|
ob (m_r h52 v0 6) fun b54 =>
nn (m_n h52) fun x55 =>
nn (m_new h52 (.inl 5)) fun h56 =>
ob (f_X5_init G x55 h56) fun h57 =>
ck (m_t h57 x55 = .inl 5) <|
ck (ixb h57 b54 (.object RX5) (2 : Int32) = true) <|
nn (m_sr h57 b54 (2 : Int32).toNatClampNeg (some x55)) fun h62 =>
ck (m_t h62 v0 = .inl 9) <|
ob (m_r h62 v0 6) fun b64 =>
nn (m_n h62) fun x65 =>
nn (m_new h62 (.inl 5)) fun h66 =>
ob (f_X5_init G x65 h66) fun h67 =>
ck (m_t h67 x65 = .inl 5) <|
ck (ixb h67 b64 (.object RX5) (3 : Int32) = true) <|
nn (m_sr h67 b64 (3 : Int32).toNatClampNeg (some x65)) fun h72 =>
ck (m_t h72 v0 = .inl 9) <|
ob (m_r h72 v0 6) fun b74 =>
nn (m_n h72) fun x75 =>
nn (m_new h72 (.inl 5)) fun h76 =>
ob (f_X5_init G x75 h76) fun h77 =>
ck (m_t h77 x75 = .inl 5) <|
ck (ixb h77 b74 (.object RX5) (4 : Int32) = true) <|
nn (m_sr h77 b74 (4 : Int32).toNatClampNeg (some x75)) fun h82 =>
ck (m_t h82 v0 = .inl 9) <|
ob (m_r h82 v0 6) fun b84 =>
nn (m_n h82) fun x85 =>
nn (m_new h82 (.inl 5)) fun h86 =>
ob (f_X5_init G x85 h86) fun h87 =>
ck (m_t h87 x85 = .inl 5) <|
ck (ixb h87 b84 (.object RX5) (5 : Int32) = true) <|
nn (m_sr h87 b84 (5 : Int32).toNatClampNeg (some x85)) fun h92 =>
ck (m_t h92 v0 = .inl 9) <|
ob (m_r h92 v0 6) fun b94 =>
nn (m_n h92) fun x95 =>
nn (m_new h92 (.inl 5)) fun h96 =>
ob (f_X5_init G x95 h96) fun h97 =>
ck (m_t h97 x95 = .inl 5) <|
ck (ixb h97 b94 (.object RX5) (6 : Int32) = true) <|
nn (m_sr h97 b94 (6 : Int32).toNatClampNeg (some x95)) fun h102 =>
ck (m_t h102 v0 = .inl 9) <|
ob (m_r h102 v0 6) fun b104 =>
nn (m_n h102) fun x105 =>
nn (m_new h102 (.inl 5)) fun h106 =>
ob (f_X5_init G x105 h106) fun h107 =>
ck (m_t h107 x105 = .inl 5) <|
ck (ixb h107 b104 (.object RX5) (7 : Int32) = true) <|
nn (m_sr h107 b104 (7 : Int32).toNatClampNeg (some x105)) fun h112 =>
some h112
set_option maxHeartbeats 4000000 in
set_option maxRecDepth 100000 in
theorem ct_X9_init {G : GG} {l : Launch} {v0 : Nat} {h : AH} {y : AH} (hf : f_X9_init G v0 h = some y) : Ct G l yX9_init cX9_init 2 none 2 44 14 89 [.ref v0] h (none, y) := by
  refine ct_of (by decide) (Nat.le_of_ble_eq_true rfl) ?_
  intro p e s m args below meth c C hm hr hin
  have C : Cx G cX9_init RX9 p s m args meth c := C
  refine e_lv (lv2 := [(0, .ref v0)]) [0] rfl ?_
  unfold f_X9_init at hf
  refine e_aload_n (pc := 0) C dX9_init_0 0 rfl rfl ?_
  refine e_objInit (pc := 1) C dX9_init_1 g264 g173 g174 (Nat.le_of_ble_eq_true rfl) (Nat.le_of_ble_eq_true rfl) ?_
  refine e_aload_n (pc := 4) C dX9_init_4 0 rfl rfl ?_
  refine e_iconst (v := (0 : Int32)) (pc := 5) C dX9_init_5 (by decide) ?_
  obtain ⟨t1, hf⟩ := ck_e hf
  refine e_puti (pc := 6) 9 0 C dX9_init_6 (by decide) (by decide) g312 rfl rfl rfl (nz_ok (by decide)) t1 ?_
  obtain ⟨h2, eh2, hf⟩ := nn_e hf
  refine e_hp eh2 ?_
  have uh2 : m_t h2 = m_t h := by rw [eh2]; exact rfl
  refine e_aload_n (pc := 9) C dX9_init_9 0 rfl rfl ?_
  refine e_iconst (v := (0 : Int32)) (pc := 10) C dX9_init_10 (by decide) ?_
  refine e_puti (pc := 11) 9 1 C dX9_init_11 (by decide) (by decide) g315 rfl rfl rfl rfl (e_mt uh2 t1) ?_
  obtain ⟨h3, eh3, hf⟩ := nn_e hf
  refine e_hp eh3 ?_
  have uh3 : m_t h3 = m_t h := by rw [eh3]; exact uh2
  refine e_aload_n (pc := 14) C dX9_init_14 0 rfl rfl ?_
  refine e_iconst (v := (0 : Int32)) (pc := 15) C dX9_init_15 (by decide) ?_
  refine e_puti (pc := 16) 9 2 C dX9_init_16 (by decide) (by decide) g319 rfl rfl rfl rfl (e_mt uh3 t1) ?_
  obtain ⟨h4, eh4, hf⟩ := nn_e hf
  refine e_hp eh4 ?_
  have uh4 : m_t h4 = m_t h := by rw [eh4]; exact uh3
  refine e_aload_n (pc := 19) C dX9_init_19 0 rfl rfl ?_
  refine e_iconst (v := (0 : Int32)) (pc := 20) C dX9_init_20 (by decide) ?_
  refine e_puti (pc := 21) 9 3 C dX9_init_21 (by decide) (by decide) g323 rfl rfl rfl rfl (e_mt uh4 t1) ?_
  obtain ⟨h5, eh5, hf⟩ := nn_e hf
  refine e_hp eh5 ?_
  have uh5 : m_t h5 = m_t h := by rw [eh5]; exact uh4
  refine e_aload_n (pc := 24) C dX9_init_24 0 rfl rfl ?_
  refine e_iconst (v := (0 : Int32)) (pc := 25) C dX9_init_25 (by decide) ?_
  refine e_puti (pc := 26) 9 4 C dX9_init_26 (by decide) (by decide) g329 rfl rfl rfl rfl (e_mt uh5 t1) ?_
  obtain ⟨h6, eh6, hf⟩ := nn_e hf
  refine e_hp eh6 ?_
  have uh6 : m_t h6 = m_t h := by rw [eh6]; exact uh5
  refine e_aload_n (pc := 29) C dX9_init_29 0 rfl rfl ?_
  refine e_iconst (v := (0 : Int32)) (pc := 30) C dX9_init_30 (by decide) ?_
  refine e_puti (pc := 31) 9 5 C dX9_init_31 (by decide) (by decide) g332 rfl rfl rfl rfl (e_mt uh6 t1) ?_
  obtain ⟨h7, eh7, hf⟩ := nn_e hf
  refine e_hp eh7 ?_
  have uh7 : m_t h7 = m_t h := by rw [eh7]; exact uh6
  refine e_aload_n (pc := 34) C dX9_init_34 0 rfl rfl ?_
  refine e_bipush (v := (8 : Int32)) (pc := 35) C dX9_init_35 (by decide) ?_
  refine e_anew (pc := 37) (t0 := 4) (N := 8) C dX9_init_37 rfl g265 C.2.2.2.2.1.2.2.1.1 (by decide) (by decide) (by decide) (Nat.le_of_ble_eq_true rfl) (Nat.le_of_ble_eq_true rfl) ?_
  obtain ⟨x8, ex8, hf⟩ := nn_e hf
  refine e_topr ex8 ?_
  obtain ⟨h9, eh9, hf⟩ := nn_e hf
  refine e_hp eh9 ?_
  obtain ⟨t10, hf⟩ := ck_e hf
  refine e_putrF (pc := 40) (x := some x8) 9 6 C hin dX9_init_40 (by decide) (by decide) g339 rfl rfl rfl rfl rfl t10 ?_
  obtain ⟨h11, eh11, hf⟩ := nn_e hf
  refine e_hp eh11 ?_
  have uh11 : m_t h11 = m_t h9 := by rw [eh11]; exact rfl
  refine e_aload_n (pc := 43) C dX9_init_43 0 rfl rfl ?_
  refine e_iconst (v := (0 : Int32)) (pc := 44) C dX9_init_44 (by decide) ?_
  refine e_puti (pc := 45) 9 7 C dX9_init_45 (by decide) (by decide) g344 rfl rfl rfl rfl (e_mt uh11 t10) ?_
  obtain ⟨h12, eh12, hf⟩ := nn_e hf
  refine e_hp eh12 ?_
  have uh12 : m_t h12 = m_t h9 := by rw [eh12]; exact uh11
  refine e_aload_n (pc := 48) C dX9_init_48 0 rfl rfl ?_
  refine e_iconst (v := (5 : Int32)) (pc := 49) C dX9_init_49 (by decide) ?_
  refine e_newi (pc := 50) C dX9_init_50 g220 (by decide) (N := 5) (by decide) (by decide) (Nat.le_of_ble_eq_true rfl) (Nat.le_of_ble_eq_true rfl) ?_
  obtain ⟨x13, ex13, hf⟩ := nn_e hf
  refine e_topr ex13 ?_
  obtain ⟨h14, eh14, hf⟩ := nn_e hf
  refine e_hp eh14 ?_
  obtain ⟨t15, hf⟩ := ck_e hf
  refine e_putrF (pc := 52) (x := some x13) 9 8 C hin dX9_init_52 (by decide) (by decide) g347 rfl rfl rfl rfl rfl t15 ?_
  obtain ⟨h16, eh16, hf⟩ := nn_e hf
  refine e_hp eh16 ?_
  have uh16 : m_t h16 = m_t h14 := by rw [eh16]; exact rfl
  refine e_aload_n (pc := 55) C dX9_init_55 0 rfl rfl ?_
  refine e_iconst (v := (5 : Int32)) (pc := 56) C dX9_init_56 (by decide) ?_
  refine e_newi (pc := 57) C dX9_init_57 g220 (by decide) (N := 5) (by decide) (by decide) (Nat.le_of_ble_eq_true rfl) (Nat.le_of_ble_eq_true rfl) ?_
  obtain ⟨x17, ex17, hf⟩ := nn_e hf
  refine e_topr ex17 ?_
  obtain ⟨h18, eh18, hf⟩ := nn_e hf
  refine e_hp eh18 ?_
  obtain ⟨t19, hf⟩ := ck_e hf
  refine e_putrF (pc := 59) (x := some x17) 9 9 C hin dX9_init_59 (by decide) (by decide) g349 rfl rfl rfl rfl rfl t19 ?_
  obtain ⟨h20, eh20, hf⟩ := nn_e hf
  refine e_hp eh20 ?_
  have uh20 : m_t h20 = m_t h18 := by rw [eh20]; exact rfl
  refine e_aload_n (pc := 62) C dX9_init_62 0 rfl rfl ?_
  refine e_iconst (v := (0 : Int32)) (pc := 63) C dX9_init_63 (by decide) ?_
  refine e_puti (pc := 64) 9 10 C dX9_init_64 (by decide) (by decide) g351 rfl rfl rfl rfl (e_mt uh20 t19) ?_
  obtain ⟨h21, eh21, hf⟩ := nn_e hf
  refine e_hp eh21 ?_
  have uh21 : m_t h21 = m_t h18 := by rw [eh21]; exact uh20
  refine e_aload_n (pc := 67) C dX9_init_67 0 rfl rfl ?_
  refine e_iconst (v := (5 : Int32)) (pc := 68) C dX9_init_68 (by decide) ?_
  refine e_newi (pc := 69) C dX9_init_69 g220 (by decide) (N := 5) (by decide) (by decide) (Nat.le_of_ble_eq_true rfl) (Nat.le_of_ble_eq_true rfl) ?_
  obtain ⟨x22, ex22, hf⟩ := nn_e hf
  refine e_topr ex22 ?_
  obtain ⟨h23, eh23, hf⟩ := nn_e hf
  refine e_hp eh23 ?_
  obtain ⟨t24, hf⟩ := ck_e hf
  refine e_putrF (pc := 71) (x := some x22) 9 11 C hin dX9_init_71 (by decide) (by decide) g354 rfl rfl rfl rfl rfl t24 ?_
  obtain ⟨h25, eh25, hf⟩ := nn_e hf
  refine e_hp eh25 ?_
  have uh25 : m_t h25 = m_t h23 := by rw [eh25]; exact rfl
  refine e_aload_n (pc := 74) C dX9_init_74 0 rfl rfl ?_
  refine e_iconst (v := (5 : Int32)) (pc := 75) C dX9_init_75 (by decide) ?_
  refine e_newi (pc := 76) C dX9_init_76 g220 (by decide) (N := 5) (by decide) (by decide) (Nat.le_of_ble_eq_true rfl) (Nat.le_of_ble_eq_true rfl) ?_
  obtain ⟨x26, ex26, hf⟩ := nn_e hf
  refine e_topr ex26 ?_
  obtain ⟨h27, eh27, hf⟩ := nn_e hf
  refine e_hp eh27 ?_
  obtain ⟨t28, hf⟩ := ck_e hf
  refine e_putrF (pc := 78) (x := some x26) 9 12 C hin dX9_init_78 (by decide) (by decide) g356 rfl rfl rfl rfl rfl t28 ?_
  obtain ⟨h29, eh29, hf⟩ := nn_e hf
  refine e_hp eh29 ?_
  have uh29 : m_t h29 = m_t h27 := by rw [eh29]; exact rfl
  refine e_aload_n (pc := 81) C dX9_init_81 0 rfl rfl ?_
  refine e_iconst (v := (5 : Int32)) (pc := 82) C dX9_init_82 (by decide) ?_
  refine e_newi (pc := 83) C dX9_init_83 g220 (by decide) (N := 5) (by decide) (by decide) (Nat.le_of_ble_eq_true rfl) (Nat.le_of_ble_eq_true rfl) ?_
  obtain ⟨x30, ex30, hf⟩ := nn_e hf
  refine e_topr ex30 ?_
  obtain ⟨h31, eh31, hf⟩ := nn_e hf
  refine e_hp eh31 ?_
  obtain ⟨t32, hf⟩ := ck_e hf
  refine e_putrF (pc := 85) (x := some x30) 9 13 C hin dX9_init_85 (by decide) (by decide) g358 rfl rfl rfl rfl rfl t32 ?_
  obtain ⟨h33, eh33, hf⟩ := nn_e hf
  refine e_hp eh33 ?_
  have uh33 : m_t h33 = m_t h31 := by rw [eh33]; exact rfl
  refine e_iconst (v := (0 : Int32)) (pc := 88) C dX9_init_88 (by decide) ?_
  refine e_istore_n (pc := 89) (lv2 := [(1, .int (0 : Int32)), (0, .ref v0)]) C hm dX9_init_89 rfl (by decide) rfl ?_
  refine e_iload_n (pc := 90) C dX9_init_90 0 rfl rfl ?_
  refine e_bipush (v := (8 : Int32)) (pc := 91) C dX9_init_91 (by decide) ?_
  refine e_icmp_ge (pc := 93) (tgt := 115) C dX9_init_93 (by decide) (fun q => absurd q (by decide)) (fun _ => ?_)
  refine e_aload_n (pc := 96) C dX9_init_96 1 rfl rfl ?_
  refine e_getr (pc := 97) 9 6 C dX9_init_97 (by decide) (by decide) g339 rfl (e_mt uh33 t32) ?_
  obtain ⟨b34, eb34, hf⟩ := ob_e hf
  refine e_rf eb34 ?_
  refine e_iload_n (pc := 100) C dX9_init_100 0 rfl rfl ?_
  refine e_new (pc := 101) (ci := 5) C dX9_init_101 (by decide) g265 g267 g153 (Nat.le_of_ble_eq_true rfl) (Nat.le_of_ble_eq_true rfl) ?_
  obtain ⟨x35, ex35, hf⟩ := nn_e hf
  refine e_topr ex35 ?_
  obtain ⟨h36, eh36, hf⟩ := nn_e hf
  refine e_hp eh36 ?_
  have tx35 : m_t h36 x35 = .inl 5 := by rw [eh36, ex35]; simp [m_t, m_new, m_n, va_up]
  refine e_dup (pc := 104) C dX9_init_104 rfl ?_
  obtain ⟨h37, y38, hf⟩ := ob_e hf
  refine e_callINv (pc := 105) (st := [.ref x35, .int (0 : Int32), .ref b34]) C (ct_X5_init y38) dX9_init_105 g268 g269 g153 g270 rfl hd_X5_init rfl ⟨Nat.le_of_ble_eq_true rfl, Nat.le_of_ble_eq_true rfl⟩ ⟨Nat.le_of_ble_eq_true rfl, Nat.le_of_ble_eq_true rfl⟩ rfl (Nat.le_of_ble_eq_true rfl) ?_
  obtain ⟨t39, hf⟩ := ck_e hf
  obtain ⟨q40, hf⟩ := ck_e hf
  obtain ⟨n41, tn41, in41⟩ := ix_e q40
  refine e_aast (pc := 108) (ci := 5) 4 (by decide) rfl C dX9_init_108 tn41 t39 in41 ?_
  obtain ⟨h42, eh42, hf⟩ := nn_e hf
  refine e_hp eh42 ?_
  have uh42 : m_t h42 = m_t h37 := by rw [eh42]; exact rfl
  refine e_iinc (pc := 109) (v := (1 : Int32)) (lv2 := [(1, .int (1 : Int32)), (0, .ref v0)]) C hm dX9_init_109 0 rfl (by decide) (by decide) rfl ?_
  refine e_goto (pc := 112) (tgt := 90) C dX9_init_112 (by decide) ?_
  refine e_iload_n (pc := 90) C dX9_init_90 0 rfl rfl ?_
  refine e_bipush (v := (8 : Int32)) (pc := 91) C dX9_init_91 (by decide) ?_
  refine e_icmp_ge (pc := 93) (tgt := 115) C dX9_init_93 (by decide) (fun q => absurd q (by decide)) (fun _ => ?_)
  refine e_aload_n (pc := 96) C dX9_init_96 1 rfl rfl ?_
  obtain ⟨t43, hf⟩ := ck_e hf
  refine e_getr (pc := 97) 9 6 C dX9_init_97 (by decide) (by decide) g339 rfl t43 ?_
  obtain ⟨b44, eb44, hf⟩ := ob_e hf
  refine e_rf eb44 ?_
  refine e_iload_n (pc := 100) C dX9_init_100 0 rfl rfl ?_
  refine e_new (pc := 101) (ci := 5) C dX9_init_101 (by decide) g265 g267 g153 (Nat.le_of_ble_eq_true rfl) (Nat.le_of_ble_eq_true rfl) ?_
  obtain ⟨x45, ex45, hf⟩ := nn_e hf
  refine e_topr ex45 ?_
  obtain ⟨h46, eh46, hf⟩ := nn_e hf
  refine e_hp eh46 ?_
  have tx45 : m_t h46 x45 = .inl 5 := by rw [eh46, ex45]; simp [m_t, m_new, m_n, va_up]
  refine e_dup (pc := 104) C dX9_init_104 rfl ?_
  obtain ⟨h47, y48, hf⟩ := ob_e hf
  refine e_callINv (pc := 105) (st := [.ref x45, .int (1 : Int32), .ref b44]) C (ct_X5_init y48) dX9_init_105 g268 g269 g153 g270 rfl hd_X5_init rfl ⟨Nat.le_of_ble_eq_true rfl, Nat.le_of_ble_eq_true rfl⟩ ⟨Nat.le_of_ble_eq_true rfl, Nat.le_of_ble_eq_true rfl⟩ rfl (Nat.le_of_ble_eq_true rfl) ?_
  obtain ⟨t49, hf⟩ := ck_e hf
  obtain ⟨q50, hf⟩ := ck_e hf
  obtain ⟨n51, tn51, in51⟩ := ix_e q50
  refine e_aast (pc := 108) (ci := 5) 4 (by decide) rfl C dX9_init_108 tn51 t49 in51 ?_
  obtain ⟨h52, eh52, hf⟩ := nn_e hf
  refine e_hp eh52 ?_
  have uh52 : m_t h52 = m_t h47 := by rw [eh52]; exact rfl
  refine e_iinc (pc := 109) (v := (2 : Int32)) (lv2 := [(1, .int (2 : Int32)), (0, .ref v0)]) C hm dX9_init_109 0 rfl (by decide) (by decide) rfl ?_
  refine e_goto (pc := 112) (tgt := 90) C dX9_init_112 (by decide) ?_
  refine e_iload_n (pc := 90) C dX9_init_90 0 rfl rfl ?_
  refine e_bipush (v := (8 : Int32)) (pc := 91) C dX9_init_91 (by decide) ?_
  refine e_icmp_ge (pc := 93) (tgt := 115) C dX9_init_93 (by decide) (fun q => absurd q (by decide)) (fun _ => ?_)
  refine e_aload_n (pc := 96) C dX9_init_96 1 rfl rfl ?_
  obtain ⟨t53, hf⟩ := ck_e hf
  refine e_getr (pc := 97) 9 6 C dX9_init_97 (by decide) (by decide) g339 rfl t53 ?_
  obtain ⟨b54, eb54, hf⟩ := ob_e hf
  refine e_rf eb54 ?_
  refine e_iload_n (pc := 100) C dX9_init_100 0 rfl rfl ?_
  refine e_new (pc := 101) (ci := 5) C dX9_init_101 (by decide) g265 g267 g153 (Nat.le_of_ble_eq_true rfl) (Nat.le_of_ble_eq_true rfl) ?_
  obtain ⟨x55, ex55, hf⟩ := nn_e hf
  refine e_topr ex55 ?_
  obtain ⟨h56, eh56, hf⟩ := nn_e hf
  refine e_hp eh56 ?_
  have tx55 : m_t h56 x55 = .inl 5 := by rw [eh56, ex55]; simp [m_t, m_new, m_n, va_up]
  refine e_dup (pc := 104) C dX9_init_104 rfl ?_
  obtain ⟨h57, y58, hf⟩ := ob_e hf
  refine e_callINv (pc := 105) (st := [.ref x55, .int (2 : Int32), .ref b54]) C (ct_X5_init y58) dX9_init_105 g268 g269 g153 g270 rfl hd_X5_init rfl ⟨Nat.le_of_ble_eq_true rfl, Nat.le_of_ble_eq_true rfl⟩ ⟨Nat.le_of_ble_eq_true rfl, Nat.le_of_ble_eq_true rfl⟩ rfl (Nat.le_of_ble_eq_true rfl) ?_
  obtain ⟨t59, hf⟩ := ck_e hf
  obtain ⟨q60, hf⟩ := ck_e hf
  obtain ⟨n61, tn61, in61⟩ := ix_e q60
  refine e_aast (pc := 108) (ci := 5) 4 (by decide) rfl C dX9_init_108 tn61 t59 in61 ?_
  obtain ⟨h62, eh62, hf⟩ := nn_e hf
  refine e_hp eh62 ?_
  have uh62 : m_t h62 = m_t h57 := by rw [eh62]; exact rfl
  refine e_iinc (pc := 109) (v := (3 : Int32)) (lv2 := [(1, .int (3 : Int32)), (0, .ref v0)]) C hm dX9_init_109 0 rfl (by decide) (by decide) rfl ?_
  refine e_goto (pc := 112) (tgt := 90) C dX9_init_112 (by decide) ?_
  refine e_iload_n (pc := 90) C dX9_init_90 0 rfl rfl ?_
  refine e_bipush (v := (8 : Int32)) (pc := 91) C dX9_init_91 (by decide) ?_
  refine e_icmp_ge (pc := 93) (tgt := 115) C dX9_init_93 (by decide) (fun q => absurd q (by decide)) (fun _ => ?_)
  refine e_aload_n (pc := 96) C dX9_init_96 1 rfl rfl ?_
  obtain ⟨t63, hf⟩ := ck_e hf
  refine e_getr (pc := 97) 9 6 C dX9_init_97 (by decide) (by decide) g339 rfl t63 ?_
  obtain ⟨b64, eb64, hf⟩ := ob_e hf
  refine e_rf eb64 ?_
  refine e_iload_n (pc := 100) C dX9_init_100 0 rfl rfl ?_
  refine e_new (pc := 101) (ci := 5) C dX9_init_101 (by decide) g265 g267 g153 (Nat.le_of_ble_eq_true rfl) (Nat.le_of_ble_eq_true rfl) ?_
  obtain ⟨x65, ex65, hf⟩ := nn_e hf
  refine e_topr ex65 ?_
  obtain ⟨h66, eh66, hf⟩ := nn_e hf
  refine e_hp eh66 ?_
  have tx65 : m_t h66 x65 = .inl 5 := by rw [eh66, ex65]; simp [m_t, m_new, m_n, va_up]
  refine e_dup (pc := 104) C dX9_init_104 rfl ?_
  obtain ⟨h67, y68, hf⟩ := ob_e hf
  refine e_callINv (pc := 105) (st := [.ref x65, .int (3 : Int32), .ref b64]) C (ct_X5_init y68) dX9_init_105 g268 g269 g153 g270 rfl hd_X5_init rfl ⟨Nat.le_of_ble_eq_true rfl, Nat.le_of_ble_eq_true rfl⟩ ⟨Nat.le_of_ble_eq_true rfl, Nat.le_of_ble_eq_true rfl⟩ rfl (Nat.le_of_ble_eq_true rfl) ?_
  obtain ⟨t69, hf⟩ := ck_e hf
  obtain ⟨q70, hf⟩ := ck_e hf
  obtain ⟨n71, tn71, in71⟩ := ix_e q70
  refine e_aast (pc := 108) (ci := 5) 4 (by decide) rfl C dX9_init_108 tn71 t69 in71 ?_
  obtain ⟨h72, eh72, hf⟩ := nn_e hf
  refine e_hp eh72 ?_
  have uh72 : m_t h72 = m_t h67 := by rw [eh72]; exact rfl
  refine e_iinc (pc := 109) (v := (4 : Int32)) (lv2 := [(1, .int (4 : Int32)), (0, .ref v0)]) C hm dX9_init_109 0 rfl (by decide) (by decide) rfl ?_
  refine e_goto (pc := 112) (tgt := 90) C dX9_init_112 (by decide) ?_
  refine e_iload_n (pc := 90) C dX9_init_90 0 rfl rfl ?_
  refine e_bipush (v := (8 : Int32)) (pc := 91) C dX9_init_91 (by decide) ?_
  refine e_icmp_ge (pc := 93) (tgt := 115) C dX9_init_93 (by decide) (fun q => absurd q (by decide)) (fun _ => ?_)
  refine e_aload_n (pc := 96) C dX9_init_96 1 rfl rfl ?_
  obtain ⟨t73, hf⟩ := ck_e hf
  refine e_getr (pc := 97) 9 6 C dX9_init_97 (by decide) (by decide) g339 rfl t73 ?_
  obtain ⟨b74, eb74, hf⟩ := ob_e hf
  refine e_rf eb74 ?_
  refine e_iload_n (pc := 100) C dX9_init_100 0 rfl rfl ?_
  refine e_new (pc := 101) (ci := 5) C dX9_init_101 (by decide) g265 g267 g153 (Nat.le_of_ble_eq_true rfl) (Nat.le_of_ble_eq_true rfl) ?_
  obtain ⟨x75, ex75, hf⟩ := nn_e hf
  refine e_topr ex75 ?_
  obtain ⟨h76, eh76, hf⟩ := nn_e hf
  refine e_hp eh76 ?_
  have tx75 : m_t h76 x75 = .inl 5 := by rw [eh76, ex75]; simp [m_t, m_new, m_n, va_up]
  refine e_dup (pc := 104) C dX9_init_104 rfl ?_
  obtain ⟨h77, y78, hf⟩ := ob_e hf
  refine e_callINv (pc := 105) (st := [.ref x75, .int (4 : Int32), .ref b74]) C (ct_X5_init y78) dX9_init_105 g268 g269 g153 g270 rfl hd_X5_init rfl ⟨Nat.le_of_ble_eq_true rfl, Nat.le_of_ble_eq_true rfl⟩ ⟨Nat.le_of_ble_eq_true rfl, Nat.le_of_ble_eq_true rfl⟩ rfl (Nat.le_of_ble_eq_true rfl) ?_
  obtain ⟨t79, hf⟩ := ck_e hf
  obtain ⟨q80, hf⟩ := ck_e hf
  obtain ⟨n81, tn81, in81⟩ := ix_e q80
  refine e_aast (pc := 108) (ci := 5) 4 (by decide) rfl C dX9_init_108 tn81 t79 in81 ?_
  obtain ⟨h82, eh82, hf⟩ := nn_e hf
  refine e_hp eh82 ?_
  have uh82 : m_t h82 = m_t h77 := by rw [eh82]; exact rfl
  refine e_iinc (pc := 109) (v := (5 : Int32)) (lv2 := [(1, .int (5 : Int32)), (0, .ref v0)]) C hm dX9_init_109 0 rfl (by decide) (by decide) rfl ?_
  refine e_goto (pc := 112) (tgt := 90) C dX9_init_112 (by decide) ?_
  refine e_iload_n (pc := 90) C dX9_init_90 0 rfl rfl ?_
  refine e_bipush (v := (8 : Int32)) (pc := 91) C dX9_init_91 (by decide) ?_
  refine e_icmp_ge (pc := 93) (tgt := 115) C dX9_init_93 (by decide) (fun q => absurd q (by decide)) (fun _ => ?_)
  refine e_aload_n (pc := 96) C dX9_init_96 1 rfl rfl ?_
  obtain ⟨t83, hf⟩ := ck_e hf
  refine e_getr (pc := 97) 9 6 C dX9_init_97 (by decide) (by decide) g339 rfl t83 ?_
  obtain ⟨b84, eb84, hf⟩ := ob_e hf
  refine e_rf eb84 ?_
  refine e_iload_n (pc := 100) C dX9_init_100 0 rfl rfl ?_
  refine e_new (pc := 101) (ci := 5) C dX9_init_101 (by decide) g265 g267 g153 (Nat.le_of_ble_eq_true rfl) (Nat.le_of_ble_eq_true rfl) ?_
  obtain ⟨x85, ex85, hf⟩ := nn_e hf
  refine e_topr ex85 ?_
  obtain ⟨h86, eh86, hf⟩ := nn_e hf
  refine e_hp eh86 ?_
  have tx85 : m_t h86 x85 = .inl 5 := by rw [eh86, ex85]; simp [m_t, m_new, m_n, va_up]
  refine e_dup (pc := 104) C dX9_init_104 rfl ?_
  obtain ⟨h87, y88, hf⟩ := ob_e hf
  refine e_callINv (pc := 105) (st := [.ref x85, .int (5 : Int32), .ref b84]) C (ct_X5_init y88) dX9_init_105 g268 g269 g153 g270 rfl hd_X5_init rfl ⟨Nat.le_of_ble_eq_true rfl, Nat.le_of_ble_eq_true rfl⟩ ⟨Nat.le_of_ble_eq_true rfl, Nat.le_of_ble_eq_true rfl⟩ rfl (Nat.le_of_ble_eq_true rfl) ?_
  obtain ⟨t89, hf⟩ := ck_e hf
  obtain ⟨q90, hf⟩ := ck_e hf
  obtain ⟨n91, tn91, in91⟩ := ix_e q90
  refine e_aast (pc := 108) (ci := 5) 4 (by decide) rfl C dX9_init_108 tn91 t89 in91 ?_
  obtain ⟨h92, eh92, hf⟩ := nn_e hf
  refine e_hp eh92 ?_
  have uh92 : m_t h92 = m_t h87 := by rw [eh92]; exact rfl
  refine e_iinc (pc := 109) (v := (6 : Int32)) (lv2 := [(1, .int (6 : Int32)), (0, .ref v0)]) C hm dX9_init_109 0 rfl (by decide) (by decide) rfl ?_
  refine e_goto (pc := 112) (tgt := 90) C dX9_init_112 (by decide) ?_
  refine e_iload_n (pc := 90) C dX9_init_90 0 rfl rfl ?_
  refine e_bipush (v := (8 : Int32)) (pc := 91) C dX9_init_91 (by decide) ?_
  refine e_icmp_ge (pc := 93) (tgt := 115) C dX9_init_93 (by decide) (fun q => absurd q (by decide)) (fun _ => ?_)
  refine e_aload_n (pc := 96) C dX9_init_96 1 rfl rfl ?_
  obtain ⟨t93, hf⟩ := ck_e hf
  refine e_getr (pc := 97) 9 6 C dX9_init_97 (by decide) (by decide) g339 rfl t93 ?_
  obtain ⟨b94, eb94, hf⟩ := ob_e hf
  refine e_rf eb94 ?_
  refine e_iload_n (pc := 100) C dX9_init_100 0 rfl rfl ?_
  refine e_new (pc := 101) (ci := 5) C dX9_init_101 (by decide) g265 g267 g153 (Nat.le_of_ble_eq_true rfl) (Nat.le_of_ble_eq_true rfl) ?_
  obtain ⟨x95, ex95, hf⟩ := nn_e hf
  refine e_topr ex95 ?_
  obtain ⟨h96, eh96, hf⟩ := nn_e hf
  refine e_hp eh96 ?_
  have tx95 : m_t h96 x95 = .inl 5 := by rw [eh96, ex95]; simp [m_t, m_new, m_n, va_up]
  refine e_dup (pc := 104) C dX9_init_104 rfl ?_
  obtain ⟨h97, y98, hf⟩ := ob_e hf
  refine e_callINv (pc := 105) (st := [.ref x95, .int (6 : Int32), .ref b94]) C (ct_X5_init y98) dX9_init_105 g268 g269 g153 g270 rfl hd_X5_init rfl ⟨Nat.le_of_ble_eq_true rfl, Nat.le_of_ble_eq_true rfl⟩ ⟨Nat.le_of_ble_eq_true rfl, Nat.le_of_ble_eq_true rfl⟩ rfl (Nat.le_of_ble_eq_true rfl) ?_
  obtain ⟨t99, hf⟩ := ck_e hf
  obtain ⟨q100, hf⟩ := ck_e hf
  obtain ⟨n101, tn101, in101⟩ := ix_e q100
  refine e_aast (pc := 108) (ci := 5) 4 (by decide) rfl C dX9_init_108 tn101 t99 in101 ?_
  obtain ⟨h102, eh102, hf⟩ := nn_e hf
  refine e_hp eh102 ?_
  have uh102 : m_t h102 = m_t h97 := by rw [eh102]; exact rfl
  refine e_iinc (pc := 109) (v := (7 : Int32)) (lv2 := [(1, .int (7 : Int32)), (0, .ref v0)]) C hm dX9_init_109 0 rfl (by decide) (by decide) rfl ?_
  refine e_goto (pc := 112) (tgt := 90) C dX9_init_112 (by decide) ?_
  refine e_iload_n (pc := 90) C dX9_init_90 0 rfl rfl ?_
  refine e_bipush (v := (8 : Int32)) (pc := 91) C dX9_init_91 (by decide) ?_
  refine e_icmp_ge (pc := 93) (tgt := 115) C dX9_init_93 (by decide) (fun q => absurd q (by decide)) (fun _ => ?_)
  refine e_aload_n (pc := 96) C dX9_init_96 1 rfl rfl ?_
  obtain ⟨t103, hf⟩ := ck_e hf
  refine e_getr (pc := 97) 9 6 C dX9_init_97 (by decide) (by decide) g339 rfl t103 ?_
  obtain ⟨b104, eb104, hf⟩ := ob_e hf
  refine e_rf eb104 ?_
  refine e_iload_n (pc := 100) C dX9_init_100 0 rfl rfl ?_
  refine e_new (pc := 101) (ci := 5) C dX9_init_101 (by decide) g265 g267 g153 (Nat.le_of_ble_eq_true rfl) (Nat.le_of_ble_eq_true rfl) ?_
  obtain ⟨x105, ex105, hf⟩ := nn_e hf
  refine e_topr ex105 ?_
  obtain ⟨h106, eh106, hf⟩ := nn_e hf
  refine e_hp eh106 ?_
  have tx105 : m_t h106 x105 = .inl 5 := by rw [eh106, ex105]; simp [m_t, m_new, m_n, va_up]
  refine e_dup (pc := 104) C dX9_init_104 rfl ?_
  obtain ⟨h107, y108, hf⟩ := ob_e hf
  refine e_callINv (pc := 105) (st := [.ref x105, .int (7 : Int32), .ref b104]) C (ct_X5_init y108) dX9_init_105 g268 g269 g153 g270 rfl hd_X5_init rfl ⟨Nat.le_of_ble_eq_true rfl, Nat.le_of_ble_eq_true rfl⟩ ⟨Nat.le_of_ble_eq_true rfl, Nat.le_of_ble_eq_true rfl⟩ rfl (Nat.le_of_ble_eq_true rfl) ?_
  obtain ⟨t109, hf⟩ := ck_e hf
  obtain ⟨q110, hf⟩ := ck_e hf
  obtain ⟨n111, tn111, in111⟩ := ix_e q110
  refine e_aast (pc := 108) (ci := 5) 4 (by decide) rfl C dX9_init_108 tn111 t109 in111 ?_
  obtain ⟨h112, eh112, hf⟩ := nn_e hf
  refine e_hp eh112 ?_
  have uh112 : m_t h112 = m_t h107 := by rw [eh112]; exact rfl
  refine e_iinc (pc := 109) (v := (8 : Int32)) (lv2 := [(1, .int (8 : Int32)), (0, .ref v0)]) C hm dX9_init_109 0 rfl (by decide) (by decide) rfl ?_
  refine e_goto (pc := 112) (tgt := 90) C dX9_init_112 (by decide) ?_
  refine e_iload_n (pc := 90) C dX9_init_90 0 rfl rfl ?_
  refine e_bipush (v := (8 : Int32)) (pc := 91) C dX9_init_91 (by decide) ?_
  refine e_icmp_ge (pc := 93) (tgt := 115) C dX9_init_93 (by decide) (fun _ => ?_) (fun q => absurd q (by decide))
  obtain rfl := so_e hf
  exact e_vret (pc := 115) C hr dX9_init_115 (Nat.le_of_ble_eq_true rfl) (Nat.le_of_ble_eq_true rfl)
theorem dX9_hasPerson_0 : decode cX9_hasPerson 0 = .ok (.iload_n 1, 1) := by decide +kernel
theorem dX9_hasPerson_1 : decode cX9_hasPerson 1 = .ok (.ifCond .lt 15, 3) := by decide +kernel
theorem dX9_hasPerson_4 : decode cX9_hasPerson 4 = .ok (.iload_n 1, 1) := by decide +kernel
theorem dX9_hasPerson_5 : decode cX9_hasPerson 5 = .ok (.aload_n 0, 1) := by decide +kernel
theorem dX9_hasPerson_6 : decode cX9_hasPerson 6 = .ok (.getfield 28, 3) := by decide +kernel
theorem dX9_hasPerson_9 : decode cX9_hasPerson 9 = .ok (.if_icmp .ge 7, 3) := by decide +kernel
theorem dX9_hasPerson_12 : decode cX9_hasPerson 12 = .ok (.iconst 1, 1) := by decide +kernel
theorem dX9_hasPerson_13 : decode cX9_hasPerson 13 = .ok (.goto 4, 3) := by decide +kernel
theorem dX9_hasPerson_16 : decode cX9_hasPerson 16 = .ok (.iconst 0, 1) := by decide +kernel
theorem dX9_hasPerson_17 : decode cX9_hasPerson 17 = .ok (.ireturn, 1) := by decide +kernel
def f_X9_hasPerson (G : GG) (v0 : Nat) (v1 : Int32) (h : AH) : Option (Int32 × AH) :=
if v1 < 0 then (some ((0 : Int32), h)) else
ck (m_t h v0 = .inl 9) <|
if (m_i h v0 5) ≤ v1 then (some ((0 : Int32), h)) else
some ((1 : Int32), h)
set_option maxHeartbeats 4000000 in
set_option maxRecDepth 100000 in
theorem ct_X9_hasPerson {G : GG} {l : Launch} {v0 : Nat} {v1 : Int32} {h : AH} {y : Int32 × AH} (hf : f_X9_hasPerson G v0 v1 h = some y) : Ct G l yX9_hasPerson cX9_hasPerson 2 (some .boolean) 0 0 0 0 [.ref v0, .int v1] h (some (.int y.1), y.2) := by
  refine ct_of (by decide) (Nat.le_of_ble_eq_true rfl) ?_
  intro p e s m args below meth c C hm hr hin
  have C : Cx G cX9_hasPerson RX9 p s m args meth c := C
  refine e_lv (lv2 := [(0, .ref v0), (1, .int v1)]) [0, 1] rfl ?_
  unfold f_X9_hasPerson at hf
  refine e_iload_n (pc := 0) C dX9_hasPerson_0 1 rfl rfl ?_
  rcases it_e hf with ⟨c1, hf⟩ | ⟨c1, hf⟩
  · refine e_if_lt (pc := 1) (tgt := 16) C dX9_hasPerson_1 (by decide) (fun _ => ?_) (fun q => absurd c1 q)
    refine e_iconst (v := (0 : Int32)) (pc := 16) C dX9_hasPerson_16 (by decide) ?_
    obtain rfl := so_e hf
    exact e_zret (pc := 17) (v := (0 : Int32)) C hr (nz_ok (by decide)) dX9_hasPerson_17 (Nat.le_of_ble_eq_true rfl) (Nat.le_of_ble_eq_true rfl)
  · refine e_if_lt (pc := 1) (tgt := 16) C dX9_hasPerson_1 (by decide) (fun q => absurd q c1) (fun _ => ?_)
    refine e_iload_n (pc := 4) C dX9_hasPerson_4 1 rfl rfl ?_
    refine e_aload_n (pc := 5) C dX9_hasPerson_5 0 rfl rfl ?_
    obtain ⟨t2, hf⟩ := ck_e hf
    refine e_geti (pc := 6) 9 5 C dX9_hasPerson_6 (by decide) (by decide) g332 rfl t2 ?_
    rcases it_e hf with ⟨c3, hf⟩ | ⟨c3, hf⟩
    · refine e_icmp_ge (pc := 9) (tgt := 16) C dX9_hasPerson_9 (by decide) (fun _ => ?_) (fun q => absurd c3 q)
      refine e_iconst (v := (0 : Int32)) (pc := 16) C dX9_hasPerson_16 (by decide) ?_
      obtain rfl := so_e hf
      exact e_zret (pc := 17) (v := (0 : Int32)) C hr (nz_ok (by decide)) dX9_hasPerson_17 (Nat.le_of_ble_eq_true rfl) (Nat.le_of_ble_eq_true rfl)
    · refine e_icmp_ge (pc := 9) (tgt := 16) C dX9_hasPerson_9 (by decide) (fun q => absurd q c3) (fun _ => ?_)
      refine e_iconst (v := (1 : Int32)) (pc := 12) C dX9_hasPerson_12 (by decide) ?_
      refine e_goto (pc := 13) (tgt := 17) C dX9_hasPerson_13 (by decide) ?_
      obtain rfl := so_e hf
      exact e_zret (pc := 17) (v := (1 : Int32)) C hr (nz_ok (by decide)) dX9_hasPerson_17 (Nat.le_of_ble_eq_true rfl) (Nat.le_of_ble_eq_true rfl)
theorem dX9_isTunnel_0 : decode cX9_isTunnel 0 = .ok (.iconst 0, 1) := by decide +kernel
theorem dX9_isTunnel_1 : decode cX9_isTunnel 1 = .ok (.istore_n 2, 1) := by decide +kernel
theorem dX9_isTunnel_2 : decode cX9_isTunnel 2 = .ok (.iload_n 2, 1) := by decide +kernel
theorem dX9_isTunnel_3 : decode cX9_isTunnel 3 = .ok (.aload_n 0, 1) := by decide +kernel
theorem dX9_isTunnel_4 : decode cX9_isTunnel 4 = .ok (.getfield 37, 3) := by decide +kernel
theorem dX9_isTunnel_7 : decode cX9_isTunnel 7 = .ok (.if_icmp .ge 31, 3) := by decide +kernel
theorem dX9_isTunnel_10 : decode cX9_isTunnel 10 = .ok (.aload_n 0, 1) := by decide +kernel
theorem dX9_isTunnel_11 : decode cX9_isTunnel 11 = .ok (.getfield 40, 3) := by decide +kernel
theorem dX9_isTunnel_14 : decode cX9_isTunnel 14 = .ok (.iload_n 2, 1) := by decide +kernel
theorem dX9_isTunnel_15 : decode cX9_isTunnel 15 = .ok (.iaload, 1) := by decide +kernel
theorem dX9_isTunnel_16 : decode cX9_isTunnel 16 = .ok (.iload_n 1, 1) := by decide +kernel
theorem dX9_isTunnel_17 : decode cX9_isTunnel 17 = .ok (.if_icmp .gt 15, 3) := by decide +kernel
theorem dX9_isTunnel_20 : decode cX9_isTunnel 20 = .ok (.iload_n 1, 1) := by decide +kernel
theorem dX9_isTunnel_21 : decode cX9_isTunnel 21 = .ok (.aload_n 0, 1) := by decide +kernel
theorem dX9_isTunnel_22 : decode cX9_isTunnel 22 = .ok (.getfield 44, 3) := by decide +kernel
theorem dX9_isTunnel_25 : decode cX9_isTunnel 25 = .ok (.iload_n 2, 1) := by decide +kernel
theorem dX9_isTunnel_26 : decode cX9_isTunnel 26 = .ok (.iaload, 1) := by decide +kernel
theorem dX9_isTunnel_27 : decode cX9_isTunnel 27 = .ok (.if_icmp .gt 5, 3) := by decide +kernel
theorem dX9_isTunnel_30 : decode cX9_isTunnel 30 = .ok (.iconst 1, 1) := by decide +kernel
theorem dX9_isTunnel_31 : decode cX9_isTunnel 31 = .ok (.ireturn, 1) := by decide +kernel
theorem dX9_isTunnel_32 : decode cX9_isTunnel 32 = .ok (.iinc 2 1, 3) := by decide +kernel
theorem dX9_isTunnel_35 : decode cX9_isTunnel 35 = .ok (.goto (-33), 3) := by decide +kernel
theorem dX9_isTunnel_38 : decode cX9_isTunnel 38 = .ok (.iconst 0, 1) := by decide +kernel
theorem dX9_isTunnel_39 : decode cX9_isTunnel 39 = .ok (.ireturn, 1) := by decide +kernel
def F_X9_isTunnel_2 (G : GG) (v0 : Nat) (v1 : Int32) (self_2 : Int32 → AH → Option (Int32 × AH)) (v2 : Int32) (h : AH) : Option (Int32 × AH) :=
ck (m_t h v0 = .inl 9) <|
if (m_i h v0 7) ≤ v2 then (some ((0 : Int32), h)) else
ob (m_r h v0 8) fun b3 =>
ck (ixb h b3 .int v2 = true) <|
nn (fun (uu_32 : Unit) => (nn (v2 + (1 : Int32)) fun x6 =>
self_2 x6 h)) fun j_32 =>
if v1 < (m_i h b3 v2.toNatClampNeg) then (j_32 ()) else
ob (m_r h v0 9) fun b8 =>
ck (ixb h b8 .int v2 = true) <|
if (m_i h b8 v2.toNatClampNeg) < v1 then (j_32 ()) else
some ((1 : Int32), h)
def f_X9_isTunnel (G : GG) (v0 : Nat) (v1 : Int32) (h : AH) : Option (Int32 × AH) :=
lq1 (F_X9_isTunnel_2 G v0 v1 ) bN (0 : Int32) h
set_option maxHeartbeats 4000000 in
set_option maxRecDepth 100000 in
theorem el_X9_isTunnel_2 {G : GG} {p : Program} {l : Launch} {e : Env} {s : State} {m : MethodId} {args : Array Value} {below : List Frame} {meth : Method} {c : Code} {y : Int32 × AH} (C : Cx G cX9_isTunnel RX9 p s m args meth c) (hm : c.maxLocals = 3) (hr : meth.sig.returnType = (some .boolean)) (hin : meth.name = yX9_isTunnel.name) {v0 : Nat} {v1 : Int32}  :
    ∀ (n : Nat) (v2 : Int32) (h : AH), lq1 (F_X9_isTunnel_2 G v0 v1) n v2 h = some y → EE G p l e ({ frames := 0, cells := 0, slots := 0, locals := 0 } : Room) s m args below meth c (some (.int y.1), y.2) 0 0 2 [(0, .ref v0), (1, .int v1), (2, .int v2)] [] h 0 0 := by
  intro n
  induction n with
  | zero => intro v2 h hf; exact (no_e hf).elim
  | succ n ih_2 =>
    intro v2 h hf
    have hf : F_X9_isTunnel_2 G v0 v1 (lq1 (F_X9_isTunnel_2 G v0 v1) n) v2 h = some y := hf
    generalize lq1 (F_X9_isTunnel_2 G v0 v1) n = self_2 at hf ih_2
    unfold F_X9_isTunnel_2 at hf
    refine e_iload_n (pc := 2) C dX9_isTunnel_2 2 rfl rfl ?_
    refine e_aload_n (pc := 3) C dX9_isTunnel_3 0 rfl rfl ?_
    obtain ⟨t1, hf⟩ := ck_e hf
    refine e_geti (pc := 4) 9 7 C dX9_isTunnel_4 (by decide) (by decide) g344 rfl t1 ?_
    rcases it_e hf with ⟨c2, hf⟩ | ⟨c2, hf⟩
    · refine e_icmp_ge (pc := 7) (tgt := 38) C dX9_isTunnel_7 (by decide) (fun _ => ?_) (fun q => absurd c2 q)
      refine e_iconst (v := (0 : Int32)) (pc := 38) C dX9_isTunnel_38 (by decide) ?_
      obtain rfl := so_e hf
      exact e_zret (pc := 39) (v := (0 : Int32)) C hr (nz_ok (by decide)) dX9_isTunnel_39 (Nat.le_of_ble_eq_true rfl) (Nat.le_of_ble_eq_true rfl)
    · refine e_icmp_ge (pc := 7) (tgt := 38) C dX9_isTunnel_7 (by decide) (fun q => absurd q c2) (fun _ => ?_)
      refine e_aload_n (pc := 10) C dX9_isTunnel_10 0 rfl rfl ?_
      refine e_getr (pc := 11) 9 8 C dX9_isTunnel_11 (by decide) (by decide) g347 rfl t1 ?_
      obtain ⟨b3, eb3, hf⟩ := ob_e hf
      refine e_rf eb3 ?_
      refine e_iload_n (pc := 14) C dX9_isTunnel_14 2 rfl rfl ?_
      obtain ⟨q4, hf⟩ := ck_e hf
      obtain ⟨n5, tn5, in5⟩ := ix_e q4
      refine e_iald (pc := 15) C dX9_isTunnel_15 tn5 in5 ?_
      refine e_iload_n (pc := 16) C dX9_isTunnel_16 1 rfl rfl ?_
      obtain ⟨j_32, ej_32, hf⟩ := nn_e hf
      have W_32 : ∀ (uu_32 : Unit), j_32 uu_32 = some y → EE G p l e ({ frames := 0, cells := 0, slots := 0, locals := 0 } : Room) s m args below meth c (some (.int y.1), y.2) 0 0 32 [(0, .ref v0), (1, .int v1), (2, .int v2)] [] h 0 0 := by
        intro uu_32 hf
        rw [ej_32] at hf
        obtain ⟨x6, ex6, hf⟩ := nn_e hf
        refine e_iinc (pc := 32) (v := x6) (lv2 := [(2, .int x6), (0, .ref v0), (1, .int v1)]) C hm dX9_isTunnel_32 2 rfl (by rw [ex6]; rfl) (by decide) rfl ?_
        refine e_goto (pc := 35) (tgt := 2) C dX9_isTunnel_35 (by decide) ?_
        refine e_lv (lv2 := [(0, .ref v0), (1, .int v1), (2, .int x6)]) [1, 2, 0] rfl ?_
        exact ih_2 x6 h hf
      rcases it_e hf with ⟨c7, hf⟩ | ⟨c7, hf⟩
      · refine e_icmp_gt (pc := 17) (tgt := 32) C dX9_isTunnel_17 (by decide) (fun _ => ?_) (fun q => absurd c7 q)
        exact W_32 () hf
      · refine e_icmp_gt (pc := 17) (tgt := 32) C dX9_isTunnel_17 (by decide) (fun q => absurd q c7) (fun _ => ?_)
        refine e_iload_n (pc := 20) C dX9_isTunnel_20 1 rfl rfl ?_
        refine e_aload_n (pc := 21) C dX9_isTunnel_21 0 rfl rfl ?_
        refine e_getr (pc := 22) 9 9 C dX9_isTunnel_22 (by decide) (by decide) g349 rfl t1 ?_
        obtain ⟨b8, eb8, hf⟩ := ob_e hf
        refine e_rf eb8 ?_
        refine e_iload_n (pc := 25) C dX9_isTunnel_25 2 rfl rfl ?_
        obtain ⟨q9, hf⟩ := ck_e hf
        obtain ⟨n10, tn10, in10⟩ := ix_e q9
        refine e_iald (pc := 26) C dX9_isTunnel_26 tn10 in10 ?_
        rcases it_e hf with ⟨c11, hf⟩ | ⟨c11, hf⟩
        · refine e_icmp_gt (pc := 27) (tgt := 32) C dX9_isTunnel_27 (by decide) (fun _ => ?_) (fun q => absurd c11 q)
          exact W_32 () hf
        · refine e_icmp_gt (pc := 27) (tgt := 32) C dX9_isTunnel_27 (by decide) (fun q => absurd q c11) (fun _ => ?_)
          refine e_iconst (v := (1 : Int32)) (pc := 30) C dX9_isTunnel_30 (by decide) ?_
          obtain rfl := so_e hf
          exact e_zret (pc := 31) (v := (1 : Int32)) C hr (nz_ok (by decide)) dX9_isTunnel_31 (Nat.le_of_ble_eq_true rfl) (Nat.le_of_ble_eq_true rfl)
set_option maxHeartbeats 4000000 in
set_option maxRecDepth 100000 in
theorem ct_X9_isTunnel {G : GG} {l : Launch} {v0 : Nat} {v1 : Int32} {h : AH} {y : Int32 × AH} (hf : f_X9_isTunnel G v0 v1 h = some y) : Ct G l yX9_isTunnel cX9_isTunnel 3 (some .boolean) 0 0 0 0 [.ref v0, .int v1] h (some (.int y.1), y.2) := by
  refine ct_of (by decide) (Nat.le_of_ble_eq_true rfl) ?_
  intro p e s m args below meth c C hm hr hin
  have C : Cx G cX9_isTunnel RX9 p s m args meth c := C
  refine e_lv (lv2 := [(0, .ref v0), (1, .int v1)]) [0, 1] rfl ?_
  unfold f_X9_isTunnel at hf
  refine e_iconst (v := (0 : Int32)) (pc := 0) C dX9_isTunnel_0 (by decide) ?_
  refine e_istore_n (pc := 1) (lv2 := [(2, .int (0 : Int32)), (0, .ref v0), (1, .int v1)]) C hm dX9_isTunnel_1 rfl (by decide) rfl ?_
  refine e_lv (lv2 := [(0, .ref v0), (1, .int v1), (2, .int (0 : Int32))]) [1, 2, 0] rfl ?_
  exact el_X9_isTunnel_2 C hm hr hin bN (0 : Int32) h hf
theorem dX9_milesToTunnel_0 : decode cX9_milesToTunnel 0 = .ok (.sipush 240, 3) := by decide +kernel
theorem dX9_milesToTunnel_3 : decode cX9_milesToTunnel 3 = .ok (.istore_n 2, 1) := by decide +kernel
theorem dX9_milesToTunnel_4 : decode cX9_milesToTunnel 4 = .ok (.iconst 0, 1) := by decide +kernel
theorem dX9_milesToTunnel_5 : decode cX9_milesToTunnel 5 = .ok (.istore_n 3, 1) := by decide +kernel
theorem dX9_milesToTunnel_6 : decode cX9_milesToTunnel 6 = .ok (.iload_n 3, 1) := by decide +kernel
theorem dX9_milesToTunnel_7 : decode cX9_milesToTunnel 7 = .ok (.aload_n 0, 1) := by decide +kernel
theorem dX9_milesToTunnel_8 : decode cX9_milesToTunnel 8 = .ok (.getfield 37, 3) := by decide +kernel
theorem dX9_milesToTunnel_11 : decode cX9_milesToTunnel 11 = .ok (.if_icmp .ge 30, 3) := by decide +kernel
theorem dX9_milesToTunnel_14 : decode cX9_milesToTunnel 14 = .ok (.aload_n 0, 1) := by decide +kernel
theorem dX9_milesToTunnel_15 : decode cX9_milesToTunnel 15 = .ok (.getfield 40, 3) := by decide +kernel
theorem dX9_milesToTunnel_18 : decode cX9_milesToTunnel 18 = .ok (.iload_n 3, 1) := by decide +kernel
theorem dX9_milesToTunnel_19 : decode cX9_milesToTunnel 19 = .ok (.iaload, 1) := by decide +kernel
theorem dX9_milesToTunnel_20 : decode cX9_milesToTunnel 20 = .ok (.iload_n 1, 1) := by decide +kernel
theorem dX9_milesToTunnel_21 : decode cX9_milesToTunnel 21 = .ok (.if_icmp .le 14, 3) := by decide +kernel
theorem dX9_milesToTunnel_24 : decode cX9_milesToTunnel 24 = .ok (.iload_n 2, 1) := by decide +kernel
theorem dX9_milesToTunnel_25 : decode cX9_milesToTunnel 25 = .ok (.aload_n 0, 1) := by decide +kernel
theorem dX9_milesToTunnel_26 : decode cX9_milesToTunnel 26 = .ok (.getfield 40, 3) := by decide +kernel
theorem dX9_milesToTunnel_29 : decode cX9_milesToTunnel 29 = .ok (.iload_n 3, 1) := by decide +kernel
theorem dX9_milesToTunnel_30 : decode cX9_milesToTunnel 30 = .ok (.iaload, 1) := by decide +kernel
theorem dX9_milesToTunnel_31 : decode cX9_milesToTunnel 31 = .ok (.invokestatic 60, 3) := by decide +kernel
theorem dX9_milesToTunnel_34 : decode cX9_milesToTunnel 34 = .ok (.istore_n 2, 1) := by decide +kernel
theorem dX9_milesToTunnel_35 : decode cX9_milesToTunnel 35 = .ok (.iinc 3 1, 3) := by decide +kernel
theorem dX9_milesToTunnel_38 : decode cX9_milesToTunnel 38 = .ok (.goto (-32), 3) := by decide +kernel
theorem dX9_milesToTunnel_41 : decode cX9_milesToTunnel 41 = .ok (.iload_n 2, 1) := by decide +kernel
theorem dX9_milesToTunnel_42 : decode cX9_milesToTunnel 42 = .ok (.sipush 240, 3) := by decide +kernel
theorem dX9_milesToTunnel_45 : decode cX9_milesToTunnel 45 = .ok (.if_icmp .ne 8, 3) := by decide +kernel
theorem dX9_milesToTunnel_48 : decode cX9_milesToTunnel 48 = .ok (.bipush 99, 2) := by decide +kernel
theorem dX9_milesToTunnel_50 : decode cX9_milesToTunnel 50 = .ok (.goto 6, 3) := by decide +kernel
theorem dX9_milesToTunnel_53 : decode cX9_milesToTunnel 53 = .ok (.iload_n 2, 1) := by decide +kernel
theorem dX9_milesToTunnel_54 : decode cX9_milesToTunnel 54 = .ok (.iload_n 1, 1) := by decide +kernel
theorem dX9_milesToTunnel_55 : decode cX9_milesToTunnel 55 = .ok (.isub, 1) := by decide +kernel
theorem dX9_milesToTunnel_56 : decode cX9_milesToTunnel 56 = .ok (.ireturn, 1) := by decide +kernel
def F_X9_milesToTunnel_6 (G : GG) (v0 : Nat) (v1 : Int32) (K_41 : Int32 → AH → Option (Int32 × AH)) (self_6 : Int32 → Int32 → AH → Option (Int32 × AH)) (v2 : Int32) (v3 : Int32) (h : AH) : Option (Int32 × AH) :=
ck (m_t h v0 = .inl 9) <|
if (m_i h v0 7) ≤ v3 then (K_41 v2 h) else
ob (m_r h v0 8) fun b3 =>
ck (ixb h b3 .int v3 = true) <|
nn (fun (v2_35 : Int32) (h_35 : AH) => (nn (v3 + (1 : Int32)) fun x6 =>
self_6 v2_35 x6 h_35)) fun j_35 =>
if (m_i h b3 v3.toNatClampNeg) ≤ v1 then (j_35 v2 h) else
ob (m_r h v0 8) fun b8 =>
ck (ixb h b8 .int v3 = true) <|
nn (m_i h b8 v3.toNatClampNeg) fun x11 =>
nn (if x11 < v2 then x11 else v2) fun x12 =>
j_35 x12 h
def f_X9_milesToTunnel (G : GG) (v0 : Nat) (v1 : Int32) (h : AH) : Option (Int32 × AH) :=
lq2 (F_X9_milesToTunnel_6 G v0 v1 (fun (v2_41 : Int32) (h_41 : AH) => (if v2_41 = (240 : Int32) then (some ((99 : Int32), h_41)) else
some (v2_41 - v1, h_41)))) bN (240 : Int32) (0 : Int32) h
set_option maxHeartbeats 4000000 in
set_option maxRecDepth 100000 in
theorem el_X9_milesToTunnel_6 {G : GG} {p : Program} {l : Launch} {e : Env} {s : State} {m : MethodId} {args : Array Value} {below : List Frame} {meth : Method} {c : Code} {y : Int32 × AH} (C : Cx G cX9_milesToTunnel RX9 p s m args meth c) (hm : c.maxLocals = 4) (hr : meth.sig.returnType = (some .int)) (hin : meth.name = yX9_milesToTunnel.name) {v0 : Nat} {v1 : Int32} {K_41 : Int32 → AH → Option (Int32 × AH)} (hK_41 : ∀ (u2 : Int32) (h : AH), K_41 u2 h = some y → EE G p l e ({ frames := 1, cells := 0, slots := 0, locals := 24 } : Room) s m args below meth c (some (.int y.1), y.2) 0 0 41 [(1, .int v1), (2, .int u2)] [] h 0 0) :
    ∀ (n : Nat) (v2 : Int32) (v3 : Int32) (h : AH), lq2 (F_X9_milesToTunnel_6 G v0 v1 K_41) n v2 v3 h = some y → EE G p l e ({ frames := 1, cells := 0, slots := 0, locals := 24 } : Room) s m args below meth c (some (.int y.1), y.2) 0 0 6 [(0, .ref v0), (1, .int v1), (2, .int v2), (3, .int v3)] [] h 0 0 := by
  intro n
  induction n with
  | zero => intro v2 v3 h hf; exact (no_e hf).elim
  | succ n ih_6 =>
    intro v2 v3 h hf
    have hf : F_X9_milesToTunnel_6 G v0 v1 K_41 (lq2 (F_X9_milesToTunnel_6 G v0 v1 K_41) n) v2 v3 h = some y := hf
    generalize lq2 (F_X9_milesToTunnel_6 G v0 v1 K_41) n = self_6 at hf ih_6
    unfold F_X9_milesToTunnel_6 at hf
    refine e_iload_n (pc := 6) C dX9_milesToTunnel_6 3 rfl rfl ?_
    refine e_aload_n (pc := 7) C dX9_milesToTunnel_7 0 rfl rfl ?_
    obtain ⟨t1, hf⟩ := ck_e hf
    refine e_geti (pc := 8) 9 7 C dX9_milesToTunnel_8 (by decide) (by decide) g344 rfl t1 ?_
    rcases it_e hf with ⟨c2, hf⟩ | ⟨c2, hf⟩
    · refine e_icmp_ge (pc := 11) (tgt := 41) C dX9_milesToTunnel_11 (by decide) (fun _ => ?_) (fun q => absurd c2 q)
      refine e_lv (lv2 := [(1, .int v1), (2, .int v2)]) [1, 2] rfl ?_
      exact hK_41 v2 h hf
    · refine e_icmp_ge (pc := 11) (tgt := 41) C dX9_milesToTunnel_11 (by decide) (fun q => absurd q c2) (fun _ => ?_)
      refine e_aload_n (pc := 14) C dX9_milesToTunnel_14 0 rfl rfl ?_
      refine e_getr (pc := 15) 9 8 C dX9_milesToTunnel_15 (by decide) (by decide) g347 rfl t1 ?_
      obtain ⟨b3, eb3, hf⟩ := ob_e hf
      refine e_rf eb3 ?_
      refine e_iload_n (pc := 18) C dX9_milesToTunnel_18 3 rfl rfl ?_
      obtain ⟨q4, hf⟩ := ck_e hf
      obtain ⟨n5, tn5, in5⟩ := ix_e q4
      refine e_iald (pc := 19) C dX9_milesToTunnel_19 tn5 in5 ?_
      refine e_iload_n (pc := 20) C dX9_milesToTunnel_20 1 rfl rfl ?_
      obtain ⟨j_35, ej_35, hf⟩ := nn_e hf
      have W_35 : ∀ (v2_35 : Int32) (h_35 : AH), j_35 v2_35 h_35 = some y → EE G p l e ({ frames := 1, cells := 0, slots := 0, locals := 24 } : Room) s m args below meth c (some (.int y.1), y.2) 0 0 35 [(0, .ref v0), (1, .int v1), (2, .int v2_35), (3, .int v3)] [] h_35 0 0 := by
        intro v2_35 h_35 hf
        rw [ej_35] at hf
        obtain ⟨x6, ex6, hf⟩ := nn_e hf
        refine e_iinc (pc := 35) (v := x6) (lv2 := [(3, .int x6), (0, .ref v0), (1, .int v1), (2, .int v2_35)]) C hm dX9_milesToTunnel_35 3 rfl (by rw [ex6]; rfl) (by decide) rfl ?_
        refine e_goto (pc := 38) (tgt := 6) C dX9_milesToTunnel_38 (by decide) ?_
        refine e_lv (lv2 := [(0, .ref v0), (1, .int v1), (2, .int v2_35), (3, .int x6)]) [1, 2, 3, 0] rfl ?_
        exact ih_6 v2_35 x6 h_35 hf
      rcases it_e hf with ⟨c7, hf⟩ | ⟨c7, hf⟩
      · refine e_icmp_le (pc := 21) (tgt := 35) C dX9_milesToTunnel_21 (by decide) (fun _ => ?_) (fun q => absurd c7 q)
        exact W_35 v2 h hf
      · refine e_icmp_le (pc := 21) (tgt := 35) C dX9_milesToTunnel_21 (by decide) (fun q => absurd q c7) (fun _ => ?_)
        refine e_iload_n (pc := 24) C dX9_milesToTunnel_24 2 rfl rfl ?_
        refine e_aload_n (pc := 25) C dX9_milesToTunnel_25 0 rfl rfl ?_
        refine e_getr (pc := 26) 9 8 C dX9_milesToTunnel_26 (by decide) (by decide) g347 rfl t1 ?_
        obtain ⟨b8, eb8, hf⟩ := ob_e hf
        refine e_rf eb8 ?_
        refine e_iload_n (pc := 29) C dX9_milesToTunnel_29 3 rfl rfl ?_
        obtain ⟨q9, hf⟩ := ck_e hf
        obtain ⟨n10, tn10, in10⟩ := ix_e q9
        refine e_iald (pc := 30) C dX9_milesToTunnel_30 tn10 in10 ?_
        obtain ⟨x11, ex11, hf⟩ := nn_e hf
        refine e_topi ex11 ?_
        refine e_mmin (pc := 31) C dX9_milesToTunnel_31 g1026 g863 g164 g864 (Nat.le_of_ble_eq_true rfl) (Nat.le_of_ble_eq_true rfl) (Nat.le_of_ble_eq_true rfl) (Nat.le_of_ble_eq_true rfl) ?_
        obtain ⟨x12, ex12, hf⟩ := nn_e hf
        refine e_topi ex12 ?_
        refine e_istore_n (pc := 34) (lv2 := [(2, .int x12), (0, .ref v0), (1, .int v1), (3, .int v3)]) C hm dX9_milesToTunnel_34 rfl (by decide) rfl ?_
        refine e_lv (lv2 := [(0, .ref v0), (1, .int v1), (2, .int x12), (3, .int v3)]) [1, 2, 0, 3] rfl ?_
        exact W_35 x12 h hf
set_option maxHeartbeats 4000000 in
set_option maxRecDepth 100000 in
theorem ct_X9_milesToTunnel {G : GG} {l : Launch} {v0 : Nat} {v1 : Int32} {h : AH} {y : Int32 × AH} (hf : f_X9_milesToTunnel G v0 v1 h = some y) : Ct G l yX9_milesToTunnel cX9_milesToTunnel 4 (some .int) 1 24 0 0 [.ref v0, .int v1] h (some (.int y.1), y.2) := by
  refine ct_of (by decide) (Nat.le_of_ble_eq_true rfl) ?_
  intro p e s m args below meth c C hm hr hin
  have C : Cx G cX9_milesToTunnel RX9 p s m args meth c := C
  refine e_lv (lv2 := [(0, .ref v0), (1, .int v1)]) [0, 1] rfl ?_
  unfold f_X9_milesToTunnel at hf
  refine e_sipush (v := (240 : Int32)) (pc := 0) C dX9_milesToTunnel_0 (by decide) ?_
  refine e_istore_n (pc := 3) (lv2 := [(2, .int (240 : Int32)), (0, .ref v0), (1, .int v1)]) C hm dX9_milesToTunnel_3 rfl (by decide) rfl ?_
  refine e_iconst (v := (0 : Int32)) (pc := 4) C dX9_milesToTunnel_4 (by decide) ?_
  refine e_istore_n (pc := 5) (lv2 := [(3, .int (0 : Int32)), (2, .int (240 : Int32)), (0, .ref v0), (1, .int v1)]) C hm dX9_milesToTunnel_5 rfl (by decide) rfl ?_
  refine e_lv (lv2 := [(0, .ref v0), (1, .int v1), (2, .int (240 : Int32)), (3, .int (0 : Int32))]) [2, 3, 1, 0] rfl ?_
  refine el_X9_milesToTunnel_6 C hm hr hin (fun v2_41 h_41 hf => ?_) bN (240 : Int32) (0 : Int32) h hf
  refine e_iload_n (pc := 41) C dX9_milesToTunnel_41 1 rfl rfl ?_
  refine e_sipush (v := (240 : Int32)) (pc := 42) C dX9_milesToTunnel_42 (by decide) ?_
  rcases it_e hf with ⟨c13, hf⟩ | ⟨c13, hf⟩
  · refine e_icmp_ne (pc := 45) (tgt := 53) C dX9_milesToTunnel_45 (by decide) (fun q => absurd c13 q) (fun _ => ?_)
    refine e_bipush (v := (99 : Int32)) (pc := 48) C dX9_milesToTunnel_48 (by decide) ?_
    refine e_goto (pc := 50) (tgt := 56) C dX9_milesToTunnel_50 (by decide) ?_
    obtain rfl := so_e hf
    exact e_iret (pc := 56) C hr dX9_milesToTunnel_56 (Nat.le_of_ble_eq_true rfl) (Nat.le_of_ble_eq_true rfl)
  · refine e_icmp_ne (pc := 45) (tgt := 53) C dX9_milesToTunnel_45 (by decide) (fun _ => ?_) (fun q => absurd q c13)
    refine e_iload_n (pc := 53) C dX9_milesToTunnel_53 1 rfl rfl ?_
    refine e_iload_n (pc := 54) C dX9_milesToTunnel_54 0 rfl rfl ?_
    refine e_isub (pc := 55) C dX9_milesToTunnel_55 ?_
    obtain rfl := so_e hf
    exact e_iret (pc := 56) C hr dX9_milesToTunnel_56 (Nat.le_of_ble_eq_true rfl) (Nat.le_of_ble_eq_true rfl)
theorem dX9_coldAt_0 : decode cX9_coldAt 0 = .ok (.iconst 0, 1) := by decide +kernel
theorem dX9_coldAt_1 : decode cX9_coldAt 1 = .ok (.istore_n 2, 1) := by decide +kernel
theorem dX9_coldAt_2 : decode cX9_coldAt 2 = .ok (.iconst 0, 1) := by decide +kernel
theorem dX9_coldAt_3 : decode cX9_coldAt 3 = .ok (.istore_n 3, 1) := by decide +kernel
theorem dX9_coldAt_4 : decode cX9_coldAt 4 = .ok (.iload_n 3, 1) := by decide +kernel
theorem dX9_coldAt_5 : decode cX9_coldAt 5 = .ok (.aload_n 0, 1) := by decide +kernel
theorem dX9_coldAt_6 : decode cX9_coldAt 6 = .ok (.getfield 47, 3) := by decide +kernel
theorem dX9_coldAt_9 : decode cX9_coldAt 9 = .ok (.if_icmp .ge 38, 3) := by decide +kernel
theorem dX9_coldAt_12 : decode cX9_coldAt 12 = .ok (.aload_n 0, 1) := by decide +kernel
theorem dX9_coldAt_13 : decode cX9_coldAt 13 = .ok (.getfield 50, 3) := by decide +kernel
theorem dX9_coldAt_16 : decode cX9_coldAt 16 = .ok (.iload_n 3, 1) := by decide +kernel
theorem dX9_coldAt_17 : decode cX9_coldAt 17 = .ok (.iaload, 1) := by decide +kernel
theorem dX9_coldAt_18 : decode cX9_coldAt 18 = .ok (.iload_n 1, 1) := by decide +kernel
theorem dX9_coldAt_19 : decode cX9_coldAt 19 = .ok (.if_icmp .gt 22, 3) := by decide +kernel
theorem dX9_coldAt_22 : decode cX9_coldAt 22 = .ok (.iload_n 1, 1) := by decide +kernel
theorem dX9_coldAt_23 : decode cX9_coldAt 23 = .ok (.aload_n 0, 1) := by decide +kernel
theorem dX9_coldAt_24 : decode cX9_coldAt 24 = .ok (.getfield 53, 3) := by decide +kernel
theorem dX9_coldAt_27 : decode cX9_coldAt 27 = .ok (.iload_n 3, 1) := by decide +kernel
theorem dX9_coldAt_28 : decode cX9_coldAt 28 = .ok (.iaload, 1) := by decide +kernel
theorem dX9_coldAt_29 : decode cX9_coldAt 29 = .ok (.if_icmp .gt 12, 3) := by decide +kernel
theorem dX9_coldAt_32 : decode cX9_coldAt 32 = .ok (.iload_n 2, 1) := by decide +kernel
theorem dX9_coldAt_33 : decode cX9_coldAt 33 = .ok (.aload_n 0, 1) := by decide +kernel
theorem dX9_coldAt_34 : decode cX9_coldAt 34 = .ok (.getfield 56, 3) := by decide +kernel
theorem dX9_coldAt_37 : decode cX9_coldAt 37 = .ok (.iload_n 3, 1) := by decide +kernel
theorem dX9_coldAt_38 : decode cX9_coldAt 38 = .ok (.iaload, 1) := by decide +kernel
theorem dX9_coldAt_39 : decode cX9_coldAt 39 = .ok (.iadd, 1) := by decide +kernel
theorem dX9_coldAt_40 : decode cX9_coldAt 40 = .ok (.istore_n 2, 1) := by decide +kernel
theorem dX9_coldAt_41 : decode cX9_coldAt 41 = .ok (.iinc 3 1, 3) := by decide +kernel
theorem dX9_coldAt_44 : decode cX9_coldAt 44 = .ok (.goto (-40), 3) := by decide +kernel
theorem dX9_coldAt_47 : decode cX9_coldAt 47 = .ok (.iload_n 2, 1) := by decide +kernel
theorem dX9_coldAt_48 : decode cX9_coldAt 48 = .ok (.ireturn, 1) := by decide +kernel
def F_X9_coldAt_4 (G : GG) (v0 : Nat) (v1 : Int32) (self_4 : Int32 → Int32 → AH → Option (Int32 × AH)) (v2 : Int32) (v3 : Int32) (h : AH) : Option (Int32 × AH) :=
ck (m_t h v0 = .inl 9) <|
if (m_i h v0 10) ≤ v3 then (some (v2, h)) else
ob (m_r h v0 11) fun b3 =>
ck (ixb h b3 .int v3 = true) <|
nn (fun (v2_41 : Int32) => (nn (v3 + (1 : Int32)) fun x6 =>
self_4 v2_41 x6 h)) fun j_41 =>
if v1 < (m_i h b3 v3.toNatClampNeg) then (j_41 v2) else
ob (m_r h v0 12) fun b8 =>
ck (ixb h b8 .int v3 = true) <|
if (m_i h b8 v3.toNatClampNeg) < v1 then (j_41 v2) else
ob (m_r h v0 13) fun b12 =>
ck (ixb h b12 .int v3 = true) <|
nn (v2 + (m_i h b12 v3.toNatClampNeg)) fun x15 =>
j_41 x15
def f_X9_coldAt (G : GG) (v0 : Nat) (v1 : Int32) (h : AH) : Option (Int32 × AH) :=
lq2 (F_X9_coldAt_4 G v0 v1 ) bN (0 : Int32) (0 : Int32) h
set_option maxHeartbeats 4000000 in
set_option maxRecDepth 100000 in
theorem el_X9_coldAt_4 {G : GG} {p : Program} {l : Launch} {e : Env} {s : State} {m : MethodId} {args : Array Value} {below : List Frame} {meth : Method} {c : Code} {y : Int32 × AH} (C : Cx G cX9_coldAt RX9 p s m args meth c) (hm : c.maxLocals = 4) (hr : meth.sig.returnType = (some .int)) (hin : meth.name = yX9_coldAt.name) {v0 : Nat} {v1 : Int32}  :
    ∀ (n : Nat) (v2 : Int32) (v3 : Int32) (h : AH), lq2 (F_X9_coldAt_4 G v0 v1) n v2 v3 h = some y → EE G p l e ({ frames := 0, cells := 0, slots := 0, locals := 0 } : Room) s m args below meth c (some (.int y.1), y.2) 0 0 4 [(0, .ref v0), (1, .int v1), (2, .int v2), (3, .int v3)] [] h 0 0 := by
  intro n
  induction n with
  | zero => intro v2 v3 h hf; exact (no_e hf).elim
  | succ n ih_4 =>
    intro v2 v3 h hf
    have hf : F_X9_coldAt_4 G v0 v1 (lq2 (F_X9_coldAt_4 G v0 v1) n) v2 v3 h = some y := hf
    generalize lq2 (F_X9_coldAt_4 G v0 v1) n = self_4 at hf ih_4
    unfold F_X9_coldAt_4 at hf
    refine e_iload_n (pc := 4) C dX9_coldAt_4 3 rfl rfl ?_
    refine e_aload_n (pc := 5) C dX9_coldAt_5 0 rfl rfl ?_
    obtain ⟨t1, hf⟩ := ck_e hf
    refine e_geti (pc := 6) 9 10 C dX9_coldAt_6 (by decide) (by decide) g351 rfl t1 ?_
    rcases it_e hf with ⟨c2, hf⟩ | ⟨c2, hf⟩
    · refine e_icmp_ge (pc := 9) (tgt := 47) C dX9_coldAt_9 (by decide) (fun _ => ?_) (fun q => absurd c2 q)
      refine e_iload_n (pc := 47) C dX9_coldAt_47 2 rfl rfl ?_
      obtain rfl := so_e hf
      exact e_iret (pc := 48) C hr dX9_coldAt_48 (Nat.le_of_ble_eq_true rfl) (Nat.le_of_ble_eq_true rfl)
    · refine e_icmp_ge (pc := 9) (tgt := 47) C dX9_coldAt_9 (by decide) (fun q => absurd q c2) (fun _ => ?_)
      refine e_aload_n (pc := 12) C dX9_coldAt_12 0 rfl rfl ?_
      refine e_getr (pc := 13) 9 11 C dX9_coldAt_13 (by decide) (by decide) g354 rfl t1 ?_
      obtain ⟨b3, eb3, hf⟩ := ob_e hf
      refine e_rf eb3 ?_
      refine e_iload_n (pc := 16) C dX9_coldAt_16 3 rfl rfl ?_
      obtain ⟨q4, hf⟩ := ck_e hf
      obtain ⟨n5, tn5, in5⟩ := ix_e q4
      refine e_iald (pc := 17) C dX9_coldAt_17 tn5 in5 ?_
      refine e_iload_n (pc := 18) C dX9_coldAt_18 1 rfl rfl ?_
      obtain ⟨j_41, ej_41, hf⟩ := nn_e hf
      have W_41 : ∀ (v2_41 : Int32), j_41 v2_41 = some y → EE G p l e ({ frames := 0, cells := 0, slots := 0, locals := 0 } : Room) s m args below meth c (some (.int y.1), y.2) 0 0 41 [(0, .ref v0), (1, .int v1), (2, .int v2_41), (3, .int v3)] [] h 0 0 := by
        intro v2_41 hf
        rw [ej_41] at hf
        obtain ⟨x6, ex6, hf⟩ := nn_e hf
        refine e_iinc (pc := 41) (v := x6) (lv2 := [(3, .int x6), (0, .ref v0), (1, .int v1), (2, .int v2_41)]) C hm dX9_coldAt_41 3 rfl (by rw [ex6]; rfl) (by decide) rfl ?_
        refine e_goto (pc := 44) (tgt := 4) C dX9_coldAt_44 (by decide) ?_
        refine e_lv (lv2 := [(0, .ref v0), (1, .int v1), (2, .int v2_41), (3, .int x6)]) [1, 2, 3, 0] rfl ?_
        exact ih_4 v2_41 x6 h hf
      rcases it_e hf with ⟨c7, hf⟩ | ⟨c7, hf⟩
      · refine e_icmp_gt (pc := 19) (tgt := 41) C dX9_coldAt_19 (by decide) (fun _ => ?_) (fun q => absurd c7 q)
        exact W_41 v2 hf
      · refine e_icmp_gt (pc := 19) (tgt := 41) C dX9_coldAt_19 (by decide) (fun q => absurd q c7) (fun _ => ?_)
        refine e_iload_n (pc := 22) C dX9_coldAt_22 1 rfl rfl ?_
        refine e_aload_n (pc := 23) C dX9_coldAt_23 0 rfl rfl ?_
        refine e_getr (pc := 24) 9 12 C dX9_coldAt_24 (by decide) (by decide) g356 rfl t1 ?_
        obtain ⟨b8, eb8, hf⟩ := ob_e hf
        refine e_rf eb8 ?_
        refine e_iload_n (pc := 27) C dX9_coldAt_27 3 rfl rfl ?_
        obtain ⟨q9, hf⟩ := ck_e hf
        obtain ⟨n10, tn10, in10⟩ := ix_e q9
        refine e_iald (pc := 28) C dX9_coldAt_28 tn10 in10 ?_
        rcases it_e hf with ⟨c11, hf⟩ | ⟨c11, hf⟩
        · refine e_icmp_gt (pc := 29) (tgt := 41) C dX9_coldAt_29 (by decide) (fun _ => ?_) (fun q => absurd c11 q)
          exact W_41 v2 hf
        · refine e_icmp_gt (pc := 29) (tgt := 41) C dX9_coldAt_29 (by decide) (fun q => absurd q c11) (fun _ => ?_)
          refine e_iload_n (pc := 32) C dX9_coldAt_32 2 rfl rfl ?_
          refine e_aload_n (pc := 33) C dX9_coldAt_33 0 rfl rfl ?_
          refine e_getr (pc := 34) 9 13 C dX9_coldAt_34 (by decide) (by decide) g358 rfl t1 ?_
          obtain ⟨b12, eb12, hf⟩ := ob_e hf
          refine e_rf eb12 ?_
          refine e_iload_n (pc := 37) C dX9_coldAt_37 3 rfl rfl ?_
          obtain ⟨q13, hf⟩ := ck_e hf
          obtain ⟨n14, tn14, in14⟩ := ix_e q13
          refine e_iald (pc := 38) C dX9_coldAt_38 tn14 in14 ?_
          refine e_iadd (pc := 39) C dX9_coldAt_39 ?_
          obtain ⟨x15, ex15, hf⟩ := nn_e hf
          refine e_topi ex15 ?_
          refine e_istore_n (pc := 40) (lv2 := [(2, .int x15), (0, .ref v0), (1, .int v1), (3, .int v3)]) C hm dX9_coldAt_40 rfl (by decide) rfl ?_
          refine e_lv (lv2 := [(0, .ref v0), (1, .int v1), (2, .int x15), (3, .int v3)]) [1, 2, 0, 3] rfl ?_
          exact W_41 x15 hf
set_option maxHeartbeats 4000000 in
set_option maxRecDepth 100000 in
theorem ct_X9_coldAt {G : GG} {l : Launch} {v0 : Nat} {v1 : Int32} {h : AH} {y : Int32 × AH} (hf : f_X9_coldAt G v0 v1 h = some y) : Ct G l yX9_coldAt cX9_coldAt 4 (some .int) 0 0 0 0 [.ref v0, .int v1] h (some (.int y.1), y.2) := by
  refine ct_of (by decide) (Nat.le_of_ble_eq_true rfl) ?_
  intro p e s m args below meth c C hm hr hin
  have C : Cx G cX9_coldAt RX9 p s m args meth c := C
  refine e_lv (lv2 := [(0, .ref v0), (1, .int v1)]) [0, 1] rfl ?_
  unfold f_X9_coldAt at hf
  refine e_iconst (v := (0 : Int32)) (pc := 0) C dX9_coldAt_0 (by decide) ?_
  refine e_istore_n (pc := 1) (lv2 := [(2, .int (0 : Int32)), (0, .ref v0), (1, .int v1)]) C hm dX9_coldAt_1 rfl (by decide) rfl ?_
  refine e_iconst (v := (0 : Int32)) (pc := 2) C dX9_coldAt_2 (by decide) ?_
  refine e_istore_n (pc := 3) (lv2 := [(3, .int (0 : Int32)), (2, .int (0 : Int32)), (0, .ref v0), (1, .int v1)]) C hm dX9_coldAt_3 rfl (by decide) rfl ?_
  refine e_lv (lv2 := [(0, .ref v0), (1, .int v1), (2, .int (0 : Int32)), (3, .int (0 : Int32))]) [2, 3, 1, 0] rfl ?_
  exact el_X9_coldAt_4 C hm hr hin bN (0 : Int32) (0 : Int32) h hf
theorem dX10_init_0 : decode cX10_init 0 = .ok (.aload_n 0, 1) := by decide +kernel
theorem dX10_init_1 : decode cX10_init 1 = .ok (.invokespecial 3, 3) := by decide +kernel
theorem dX10_init_4 : decode cX10_init 4 = .ok (.aload_n 0, 1) := by decide +kernel
theorem dX10_init_5 : decode cX10_init 5 = .ok (.iconst 0, 1) := by decide +kernel
theorem dX10_init_6 : decode cX10_init 6 = .ok (.putfield 9, 3) := by decide +kernel
theorem dX10_init_9 : decode cX10_init 9 = .ok (.aload_n 0, 1) := by decide +kernel
theorem dX10_init_10 : decode cX10_init 10 = .ok (.aload_n 1, 1) := by decide +kernel
theorem dX10_init_11 : decode cX10_init 11 = .ok (.putfield 15, 3) := by decide +kernel
theorem dX10_init_14 : decode cX10_init 14 = .ok (.return_, 1) := by decide +kernel
def f_X10_init (G : GG) (v0 : Nat) (v1 : Nat) (h : AH) : Option (AH) :=
ck (m_t h v0 = .inl 10) <|
nn (m_si h v0 1 (0 : Int32)) fun h2 =>
nn (m_sr h2 v0 0 (some v1)) fun h3 =>
some h3
set_option maxHeartbeats 4000000 in
set_option maxRecDepth 100000 in
theorem ct_X10_init {G : GG} {l : Launch} {v0 : Nat} {v1 : Nat} {h : AH} {y : AH} (hf : f_X10_init G v0 v1 h = some y) : Ct G l yX10_init cX10_init 2 none 1 24 0 0 [.ref v0, .ref v1] h (none, y) := by
  refine ct_of (by decide) (Nat.le_of_ble_eq_true rfl) ?_
  intro p e s m args below meth c C hm hr hin
  have C : Cx G cX10_init RX10 p s m args meth c := C
  refine e_lv (lv2 := [(0, .ref v0), (1, .ref v1)]) [0, 1] rfl ?_
  unfold f_X10_init at hf
  refine e_aload_n (pc := 0) C dX10_init_0 0 rfl rfl ?_
  refine e_objInit (pc := 1) C dX10_init_1 g226 g173 g174 (Nat.le_of_ble_eq_true rfl) (Nat.le_of_ble_eq_true rfl) ?_
  refine e_aload_n (pc := 4) C dX10_init_4 0 rfl rfl ?_
  refine e_iconst (v := (0 : Int32)) (pc := 5) C dX10_init_5 (by decide) ?_
  obtain ⟨t1, hf⟩ := ck_e hf
  refine e_puti (pc := 6) 10 1 C dX10_init_6 (by decide) (by decide) g228 rfl rfl rfl (nz_ok (by decide)) t1 ?_
  obtain ⟨h2, eh2, hf⟩ := nn_e hf
  refine e_hp eh2 ?_
  have uh2 : m_t h2 = m_t h := by rw [eh2]; exact rfl
  refine e_aload_n (pc := 9) C dX10_init_9 0 rfl rfl ?_
  refine e_aload_n (pc := 10) C dX10_init_10 1 rfl rfl ?_
  refine e_putrF (pc := 11) (x := some v1) 10 0 C hin dX10_init_11 (by decide) (by decide) g227 rfl rfl rfl rfl rfl (e_mt uh2 t1) ?_
  obtain ⟨h3, eh3, hf⟩ := nn_e hf
  refine e_hp eh3 ?_
  have uh3 : m_t h3 = m_t h := by rw [eh3]; exact uh2
  obtain rfl := so_e hf
  exact e_vret (pc := 14) C hr dX10_init_14 (Nat.le_of_ble_eq_true rfl) (Nat.le_of_ble_eq_true rfl)
theorem dX10_isOutOfPlace_0 : decode cX10_isOutOfPlace 0 = .ok (.iload_n 3, 1) := by decide +kernel
theorem dX10_isOutOfPlace_1 : decode cX10_isOutOfPlace 1 = .ok (.ifCond .ne 16, 3) := by decide +kernel
theorem dX10_isOutOfPlace_4 : decode cX10_isOutOfPlace 4 = .ok (.iload_n 2, 1) := by decide +kernel
theorem dX10_isOutOfPlace_5 : decode cX10_isOutOfPlace 5 = .ok (.sipush 300, 3) := by decide +kernel
theorem dX10_isOutOfPlace_8 : decode cX10_isOutOfPlace 8 = .ok (.if_icmp .eq 7, 3) := by decide +kernel
theorem dX10_isOutOfPlace_11 : decode cX10_isOutOfPlace 11 = .ok (.iconst 1, 1) := by decide +kernel
theorem dX10_isOutOfPlace_12 : decode cX10_isOutOfPlace 12 = .ok (.goto 4, 3) := by decide +kernel
theorem dX10_isOutOfPlace_15 : decode cX10_isOutOfPlace 15 = .ok (.iconst 0, 1) := by decide +kernel
theorem dX10_isOutOfPlace_16 : decode cX10_isOutOfPlace 16 = .ok (.ireturn, 1) := by decide +kernel
theorem dX10_isOutOfPlace_17 : decode cX10_isOutOfPlace 17 = .ok (.iload_n 2, 1) := by decide +kernel
theorem dX10_isOutOfPlace_18 : decode cX10_isOutOfPlace 18 = .ok (.tableswitch 92 300 306 #[42, 44, 49, 92, 92, 64, 78], 42) := by decide +kernel
theorem dX10_isOutOfPlace_60 : decode cX10_isOutOfPlace 60 = .ok (.iconst 1, 1) := by decide +kernel
theorem dX10_isOutOfPlace_61 : decode cX10_isOutOfPlace 61 = .ok (.ireturn, 1) := by decide +kernel
theorem dX10_isOutOfPlace_62 : decode cX10_isOutOfPlace 62 = .ok (.aload_n 0, 1) := by decide +kernel
theorem dX10_isOutOfPlace_63 : decode cX10_isOutOfPlace 63 = .ok (.getfield 9, 3) := by decide +kernel
theorem dX10_isOutOfPlace_66 : decode cX10_isOutOfPlace 66 = .ok (.ireturn, 1) := by decide +kernel
theorem dX10_isOutOfPlace_67 : decode cX10_isOutOfPlace 67 = .ok (.aload_n 1, 1) := by decide +kernel
theorem dX10_isOutOfPlace_68 : decode cX10_isOutOfPlace 68 = .ok (.getfield 80, 3) := by decide +kernel
theorem dX10_isOutOfPlace_71 : decode cX10_isOutOfPlace 71 = .ok (.bipush 8, 2) := by decide +kernel
theorem dX10_isOutOfPlace_73 : decode cX10_isOutOfPlace 73 = .ok (.if_icmp .lt 7, 3) := by decide +kernel
theorem dX10_isOutOfPlace_76 : decode cX10_isOutOfPlace 76 = .ok (.iconst 1, 1) := by decide +kernel
theorem dX10_isOutOfPlace_77 : decode cX10_isOutOfPlace 77 = .ok (.goto 4, 3) := by decide +kernel
theorem dX10_isOutOfPlace_80 : decode cX10_isOutOfPlace 80 = .ok (.iconst 0, 1) := by decide +kernel
theorem dX10_isOutOfPlace_81 : decode cX10_isOutOfPlace 81 = .ok (.ireturn, 1) := by decide +kernel
theorem dX10_isOutOfPlace_82 : decode cX10_isOutOfPlace 82 = .ok (.aload_n 1, 1) := by decide +kernel
theorem dX10_isOutOfPlace_83 : decode cX10_isOutOfPlace 83 = .ok (.getfield 83, 3) := by decide +kernel
theorem dX10_isOutOfPlace_86 : decode cX10_isOutOfPlace 86 = .ok (.iconst 5, 1) := by decide +kernel
theorem dX10_isOutOfPlace_87 : decode cX10_isOutOfPlace 87 = .ok (.if_icmp .lt 7, 3) := by decide +kernel
theorem dX10_isOutOfPlace_90 : decode cX10_isOutOfPlace 90 = .ok (.iconst 1, 1) := by decide +kernel
theorem dX10_isOutOfPlace_91 : decode cX10_isOutOfPlace 91 = .ok (.goto 4, 3) := by decide +kernel
theorem dX10_isOutOfPlace_94 : decode cX10_isOutOfPlace 94 = .ok (.iconst 0, 1) := by decide +kernel
theorem dX10_isOutOfPlace_95 : decode cX10_isOutOfPlace 95 = .ok (.ireturn, 1) := by decide +kernel
theorem dX10_isOutOfPlace_96 : decode cX10_isOutOfPlace 96 = .ok (.aload_n 1, 1) := by decide +kernel
theorem dX10_isOutOfPlace_97 : decode cX10_isOutOfPlace 97 = .ok (.getfield 86, 3) := by decide +kernel
theorem dX10_isOutOfPlace_100 : decode cX10_isOutOfPlace 100 = .ok (.iconst 5, 1) := by decide +kernel
theorem dX10_isOutOfPlace_101 : decode cX10_isOutOfPlace 101 = .ok (.if_icmp .lt 7, 3) := by decide +kernel
theorem dX10_isOutOfPlace_104 : decode cX10_isOutOfPlace 104 = .ok (.iconst 1, 1) := by decide +kernel
theorem dX10_isOutOfPlace_105 : decode cX10_isOutOfPlace 105 = .ok (.goto 4, 3) := by decide +kernel
theorem dX10_isOutOfPlace_108 : decode cX10_isOutOfPlace 108 = .ok (.iconst 0, 1) := by decide +kernel
theorem dX10_isOutOfPlace_109 : decode cX10_isOutOfPlace 109 = .ok (.ireturn, 1) := by decide +kernel
theorem dX10_isOutOfPlace_110 : decode cX10_isOutOfPlace 110 = .ok (.iconst 0, 1) := by decide +kernel
theorem dX10_isOutOfPlace_111 : decode cX10_isOutOfPlace 111 = .ok (.ireturn, 1) := by decide +kernel
def f_X10_isOutOfPlace (G : GG) (v0 : Nat) (v1 : Nat) (v2 : Int32) (v3 : Int32) (h : AH) : Option (Int32 × AH) :=
if v3 = 0 then (if v2 = (300 : Int32) then (some ((0 : Int32), h)) else
some ((1 : Int32), h)) else
if v2 = (300 : Int32) then (some ((1 : Int32), h)) else
if v2 = (301 : Int32) then (ck (m_t h v0 = .inl 10) <|
ck ((m_i h v0 1) &&& 1 = m_i h v0 1) <|
some (m_i h v0 1, h)) else
if v2 = (302 : Int32) then (ck (m_t h v1 = .inl 9) <|
if (m_i h v1 5) < (8 : Int32) then (some ((0 : Int32), h)) else
some ((1 : Int32), h)) else
if v2 = (303 : Int32) then (some ((0 : Int32), h)) else
if v2 = (304 : Int32) then (some ((0 : Int32), h)) else
if v2 = (305 : Int32) then (ck (m_t h v1 = .inl 9) <|
if (m_i h v1 7) < (5 : Int32) then (some ((0 : Int32), h)) else
some ((1 : Int32), h)) else
if v2 = (306 : Int32) then (ck (m_t h v1 = .inl 9) <|
if (m_i h v1 10) < (5 : Int32) then (some ((0 : Int32), h)) else
some ((1 : Int32), h)) else
some ((0 : Int32), h)
set_option maxHeartbeats 4000000 in
set_option maxRecDepth 100000 in
theorem ct_X10_isOutOfPlace {G : GG} {l : Launch} {v0 : Nat} {v1 : Nat} {v2 : Int32} {v3 : Int32} {h : AH} {y : Int32 × AH} (hf : f_X10_isOutOfPlace G v0 v1 v2 v3 h = some y) : Ct G l yX10_isOutOfPlace cX10_isOutOfPlace 4 (some .boolean) 0 0 0 0 [.ref v0, .ref v1, .int v2, .int v3] h (some (.int y.1), y.2) := by
  refine ct_of (by decide) (Nat.le_of_ble_eq_true rfl) ?_
  intro p e s m args below meth c C hm hr hin
  have C : Cx G cX10_isOutOfPlace RX10 p s m args meth c := C
  refine e_lv (lv2 := [(0, .ref v0), (1, .ref v1), (2, .int v2), (3, .int v3)]) [0, 1, 2, 3] rfl ?_
  unfold f_X10_isOutOfPlace at hf
  refine e_iload_n (pc := 0) C dX10_isOutOfPlace_0 3 rfl rfl ?_
  rcases it_e hf with ⟨c1, hf⟩ | ⟨c1, hf⟩
  · refine e_if_ne (pc := 1) (tgt := 17) C dX10_isOutOfPlace_1 (by decide) (fun q => absurd c1 q) (fun _ => ?_)
    refine e_iload_n (pc := 4) C dX10_isOutOfPlace_4 2 rfl rfl ?_
    refine e_sipush (v := (300 : Int32)) (pc := 5) C dX10_isOutOfPlace_5 (by decide) ?_
    rcases it_e hf with ⟨c2, hf⟩ | ⟨c2, hf⟩
    · refine e_icmp_eq (pc := 8) (tgt := 15) C dX10_isOutOfPlace_8 (by decide) (fun _ => ?_) (fun q => absurd c2 q)
      refine e_iconst (v := (0 : Int32)) (pc := 15) C dX10_isOutOfPlace_15 (by decide) ?_
      obtain rfl := so_e hf
      exact e_zret (pc := 16) (v := (0 : Int32)) C hr (nz_ok (by decide)) dX10_isOutOfPlace_16 (Nat.le_of_ble_eq_true rfl) (Nat.le_of_ble_eq_true rfl)
    · refine e_icmp_eq (pc := 8) (tgt := 15) C dX10_isOutOfPlace_8 (by decide) (fun q => absurd q c2) (fun _ => ?_)
      refine e_iconst (v := (1 : Int32)) (pc := 11) C dX10_isOutOfPlace_11 (by decide) ?_
      refine e_goto (pc := 12) (tgt := 16) C dX10_isOutOfPlace_12 (by decide) ?_
      obtain rfl := so_e hf
      exact e_zret (pc := 16) (v := (1 : Int32)) C hr (nz_ok (by decide)) dX10_isOutOfPlace_16 (Nat.le_of_ble_eq_true rfl) (Nat.le_of_ble_eq_true rfl)
  · refine e_if_ne (pc := 1) (tgt := 17) C dX10_isOutOfPlace_1 (by decide) (fun _ => ?_) (fun q => absurd q c1)
    refine e_iload_n (pc := 17) C dX10_isOutOfPlace_17 2 rfl rfl ?_
    rcases it_e hf with ⟨c3, hf⟩ | ⟨c3, hf⟩
    · refine e_tabK (pc := 18) (tgt := 60) (300 : Int32) c3 C dX10_isOutOfPlace_18 (by decide) (by decide) rfl (by decide) ?_
      refine e_iconst (v := (1 : Int32)) (pc := 60) C dX10_isOutOfPlace_60 (by decide) ?_
      obtain rfl := so_e hf
      exact e_zret (pc := 61) (v := (1 : Int32)) C hr (nz_ok (by decide)) dX10_isOutOfPlace_61 (Nat.le_of_ble_eq_true rfl) (Nat.le_of_ble_eq_true rfl)
    rcases it_e hf with ⟨c4, hf⟩ | ⟨c4, hf⟩
    · refine e_tabK (pc := 18) (tgt := 62) (301 : Int32) c4 C dX10_isOutOfPlace_18 (by decide) (by decide) rfl (by decide) ?_
      refine e_aload_n (pc := 62) C dX10_isOutOfPlace_62 0 rfl rfl ?_
      obtain ⟨t5, hf⟩ := ck_e hf
      refine e_geti (pc := 63) 10 1 C dX10_isOutOfPlace_63 (by decide) (by decide) g228 rfl t5 ?_
      obtain ⟨q6, hf⟩ := ck_e hf
      obtain rfl := so_e hf
      exact e_zret (pc := 66) (v := m_i h v0 1) C hr (nz_ok q6) dX10_isOutOfPlace_66 (Nat.le_of_ble_eq_true rfl) (Nat.le_of_ble_eq_true rfl)
    rcases it_e hf with ⟨c7, hf⟩ | ⟨c7, hf⟩
    · refine e_tabK (pc := 18) (tgt := 67) (302 : Int32) c7 C dX10_isOutOfPlace_18 (by decide) (by decide) rfl (by decide) ?_
      refine e_aload_n (pc := 67) C dX10_isOutOfPlace_67 1 rfl rfl ?_
      obtain ⟨t8, hf⟩ := ck_e hf
      refine e_getiN (pc := 68) 9 5 C dX10_isOutOfPlace_68 (by decide) (by decide) g338 rfl t8 ?_
      refine e_bipush (v := (8 : Int32)) (pc := 71) C dX10_isOutOfPlace_71 (by decide) ?_
      rcases it_e hf with ⟨c9, hf⟩ | ⟨c9, hf⟩
      · refine e_icmp_lt (pc := 73) (tgt := 80) C dX10_isOutOfPlace_73 (by decide) (fun _ => ?_) (fun q => absurd c9 q)
        refine e_iconst (v := (0 : Int32)) (pc := 80) C dX10_isOutOfPlace_80 (by decide) ?_
        obtain rfl := so_e hf
        exact e_zret (pc := 81) (v := (0 : Int32)) C hr (nz_ok (by decide)) dX10_isOutOfPlace_81 (Nat.le_of_ble_eq_true rfl) (Nat.le_of_ble_eq_true rfl)
      · refine e_icmp_lt (pc := 73) (tgt := 80) C dX10_isOutOfPlace_73 (by decide) (fun q => absurd q c9) (fun _ => ?_)
        refine e_iconst (v := (1 : Int32)) (pc := 76) C dX10_isOutOfPlace_76 (by decide) ?_
        refine e_goto (pc := 77) (tgt := 81) C dX10_isOutOfPlace_77 (by decide) ?_
        obtain rfl := so_e hf
        exact e_zret (pc := 81) (v := (1 : Int32)) C hr (nz_ok (by decide)) dX10_isOutOfPlace_81 (Nat.le_of_ble_eq_true rfl) (Nat.le_of_ble_eq_true rfl)
    rcases it_e hf with ⟨c10, hf⟩ | ⟨c10, hf⟩
    · refine e_tabK (pc := 18) (tgt := 110) (303 : Int32) c10 C dX10_isOutOfPlace_18 (by decide) (by decide) rfl (by decide) ?_
      refine e_iconst (v := (0 : Int32)) (pc := 110) C dX10_isOutOfPlace_110 (by decide) ?_
      obtain rfl := so_e hf
      exact e_zret (pc := 111) (v := (0 : Int32)) C hr (nz_ok (by decide)) dX10_isOutOfPlace_111 (Nat.le_of_ble_eq_true rfl) (Nat.le_of_ble_eq_true rfl)
    rcases it_e hf with ⟨c11, hf⟩ | ⟨c11, hf⟩
    · refine e_tabK (pc := 18) (tgt := 110) (304 : Int32) c11 C dX10_isOutOfPlace_18 (by decide) (by decide) rfl (by decide) ?_
      refine e_iconst (v := (0 : Int32)) (pc := 110) C dX10_isOutOfPlace_110 (by decide) ?_
      obtain rfl := so_e hf
      exact e_zret (pc := 111) (v := (0 : Int32)) C hr (nz_ok (by decide)) dX10_isOutOfPlace_111 (Nat.le_of_ble_eq_true rfl) (Nat.le_of_ble_eq_true rfl)
    rcases it_e hf with ⟨c12, hf⟩ | ⟨c12, hf⟩
    · refine e_tabK (pc := 18) (tgt := 82) (305 : Int32) c12 C dX10_isOutOfPlace_18 (by decide) (by decide) rfl (by decide) ?_
      refine e_aload_n (pc := 82) C dX10_isOutOfPlace_82 1 rfl rfl ?_
      obtain ⟨t13, hf⟩ := ck_e hf
      refine e_getiN (pc := 83) 9 7 C dX10_isOutOfPlace_83 (by decide) (by decide) g345 rfl t13 ?_
      refine e_iconst (v := (5 : Int32)) (pc := 86) C dX10_isOutOfPlace_86 (by decide) ?_
      rcases it_e hf with ⟨c14, hf⟩ | ⟨c14, hf⟩
      · refine e_icmp_lt (pc := 87) (tgt := 94) C dX10_isOutOfPlace_87 (by decide) (fun _ => ?_) (fun q => absurd c14 q)
        refine e_iconst (v := (0 : Int32)) (pc := 94) C dX10_isOutOfPlace_94 (by decide) ?_
        obtain rfl := so_e hf
        exact e_zret (pc := 95) (v := (0 : Int32)) C hr (nz_ok (by decide)) dX10_isOutOfPlace_95 (Nat.le_of_ble_eq_true rfl) (Nat.le_of_ble_eq_true rfl)
      · refine e_icmp_lt (pc := 87) (tgt := 94) C dX10_isOutOfPlace_87 (by decide) (fun q => absurd q c14) (fun _ => ?_)
        refine e_iconst (v := (1 : Int32)) (pc := 90) C dX10_isOutOfPlace_90 (by decide) ?_
        refine e_goto (pc := 91) (tgt := 95) C dX10_isOutOfPlace_91 (by decide) ?_
        obtain rfl := so_e hf
        exact e_zret (pc := 95) (v := (1 : Int32)) C hr (nz_ok (by decide)) dX10_isOutOfPlace_95 (Nat.le_of_ble_eq_true rfl) (Nat.le_of_ble_eq_true rfl)
    rcases it_e hf with ⟨c15, hf⟩ | ⟨c15, hf⟩
    · refine e_tabK (pc := 18) (tgt := 96) (306 : Int32) c15 C dX10_isOutOfPlace_18 (by decide) (by decide) rfl (by decide) ?_
      refine e_aload_n (pc := 96) C dX10_isOutOfPlace_96 1 rfl rfl ?_
      obtain ⟨t16, hf⟩ := ck_e hf
      refine e_getiN (pc := 97) 9 10 C dX10_isOutOfPlace_97 (by decide) (by decide) g352 rfl t16 ?_
      refine e_iconst (v := (5 : Int32)) (pc := 100) C dX10_isOutOfPlace_100 (by decide) ?_
      rcases it_e hf with ⟨c17, hf⟩ | ⟨c17, hf⟩
      · refine e_icmp_lt (pc := 101) (tgt := 108) C dX10_isOutOfPlace_101 (by decide) (fun _ => ?_) (fun q => absurd c17 q)
        refine e_iconst (v := (0 : Int32)) (pc := 108) C dX10_isOutOfPlace_108 (by decide) ?_
        obtain rfl := so_e hf
        exact e_zret (pc := 109) (v := (0 : Int32)) C hr (nz_ok (by decide)) dX10_isOutOfPlace_109 (Nat.le_of_ble_eq_true rfl) (Nat.le_of_ble_eq_true rfl)
      · refine e_icmp_lt (pc := 101) (tgt := 108) C dX10_isOutOfPlace_101 (by decide) (fun q => absurd q c17) (fun _ => ?_)
        refine e_iconst (v := (1 : Int32)) (pc := 104) C dX10_isOutOfPlace_104 (by decide) ?_
        refine e_goto (pc := 105) (tgt := 109) C dX10_isOutOfPlace_105 (by decide) ?_
        obtain rfl := so_e hf
        exact e_zret (pc := 109) (v := (1 : Int32)) C hr (nz_ok (by decide)) dX10_isOutOfPlace_109 (Nat.le_of_ble_eq_true rfl) (Nat.le_of_ble_eq_true rfl)
    refine e_tabOut (pc := 18) (tgt := 110) C dX10_isOutOfPlace_18 (by have g0 := i_ne 300 (by decide) c3; have g1 := i_ne 301 (by decide) c4; have g2 := i_ne 302 (by decide) c7; have g3 := i_ne 303 (by decide) c10; have g4 := i_ne 304 (by decide) c11; have g5 := i_ne 305 (by decide) c12; have g6 := i_ne 306 (by decide) c15; omega) (by decide) ?_
    refine e_iconst (v := (0 : Int32)) (pc := 110) C dX10_isOutOfPlace_110 (by decide) ?_
    obtain rfl := so_e hf
    exact e_zret (pc := 111) (v := (0 : Int32)) C hr (nz_ok (by decide)) dX10_isOutOfPlace_111 (Nat.le_of_ble_eq_true rfl) (Nat.le_of_ble_eq_true rfl)
theorem dX10_readStart_0 : decode cX10_readStart 0 = .ok (.aload_n 1, 1) := by decide +kernel
theorem dX10_readStart_1 : decode cX10_readStart 1 = .ok (.aload_n 0, 1) := by decide +kernel
theorem dX10_readStart_2 : decode cX10_readStart 2 = .ok (.getfield 15, 3) := by decide +kernel
theorem dX10_readStart_5 : decode cX10_readStart 5 = .ok (.iconst 0, 1) := by decide +kernel
theorem dX10_readStart_6 : decode cX10_readStart 6 = .ok (.bipush 60, 2) := by decide +kernel
theorem dX10_readStart_8 : decode cX10_readStart 8 = .ok (.invokevirtual 89, 3) := by decide +kernel
theorem dX10_readStart_11 : decode cX10_readStart 11 = .ok (.putfield 93, 3) := by decide +kernel
theorem dX10_readStart_14 : decode cX10_readStart 14 = .ok (.aload_n 1, 1) := by decide +kernel
theorem dX10_readStart_15 : decode cX10_readStart 15 = .ok (.aload_n 0, 1) := by decide +kernel
theorem dX10_readStart_16 : decode cX10_readStart 16 = .ok (.getfield 15, 3) := by decide +kernel
theorem dX10_readStart_19 : decode cX10_readStart 19 = .ok (.iconst 0, 1) := by decide +kernel
theorem dX10_readStart_20 : decode cX10_readStart 20 = .ok (.iconst 3, 1) := by decide +kernel
theorem dX10_readStart_21 : decode cX10_readStart 21 = .ok (.invokevirtual 89, 3) := by decide +kernel
theorem dX10_readStart_24 : decode cX10_readStart 24 = .ok (.putfield 96, 3) := by decide +kernel
theorem dX10_readStart_27 : decode cX10_readStart 27 = .ok (.aload_n 1, 1) := by decide +kernel
theorem dX10_readStart_28 : decode cX10_readStart 28 = .ok (.aload_n 0, 1) := by decide +kernel
theorem dX10_readStart_29 : decode cX10_readStart 29 = .ok (.getfield 15, 3) := by decide +kernel
theorem dX10_readStart_32 : decode cX10_readStart 32 = .ok (.iconst 0, 1) := by decide +kernel
theorem dX10_readStart_33 : decode cX10_readStart 33 = .ok (.bipush 6, 2) := by decide +kernel
theorem dX10_readStart_35 : decode cX10_readStart 35 = .ok (.invokevirtual 89, 3) := by decide +kernel
theorem dX10_readStart_38 : decode cX10_readStart 38 = .ok (.putfield 99, 3) := by decide +kernel
theorem dX10_readStart_41 : decode cX10_readStart 41 = .ok (.return_, 1) := by decide +kernel
def f_X10_readStart (G : GG) (v0 : Nat) (v1 : Nat) (h : AH) : Option (AH) :=
ck (m_t h v0 = .inl 10) <|
ob (m_r h v0 0) fun b2 =>
ck (m_t h b2 = .inl 8) <|
cb (f_X8_takeNumber G b2 (0 : Int32) (60 : Int32) h) fun r6 h4 =>
ck (m_t h4 v1 = .inl 9) <|
nn (m_si h4 v1 1 r6) fun h8 =>
ck (m_t h8 v0 = .inl 10) <|
ob (m_r h8 v0 0) fun b10 =>
ck (m_t h8 b10 = .inl 8) <|
cb (f_X8_takeNumber G b10 (0 : Int32) (3 : Int32) h8) fun r14 h12 =>
ck (m_t h12 v1 = .inl 9) <|
nn (m_si h12 v1 2 r14) fun h16 =>
ck (m_t h16 v0 = .inl 10) <|
ob (m_r h16 v0 0) fun b18 =>
ck (m_t h16 b18 = .inl 8) <|
cb (f_X8_takeNumber G b18 (0 : Int32) (6 : Int32) h16) fun r22 h20 =>
ck (m_t h20 v1 = .inl 9) <|
nn (m_si h20 v1 3 r22) fun h24 =>
some h24
set_option maxHeartbeats 4000000 in
set_option maxRecDepth 100000 in
theorem ct_X10_readStart {G : GG} {l : Launch} {v0 : Nat} {v1 : Nat} {h : AH} {y : AH} (hf : f_X10_readStart G v0 v1 h = some y) : Ct G l yX10_readStart cX10_readStart 2 none 2 44 0 0 [.ref v0, .ref v1] h (none, y) := by
  refine ct_of (by decide) (Nat.le_of_ble_eq_true rfl) ?_
  intro p e s m args below meth c C hm hr hin
  have C : Cx G cX10_readStart RX10 p s m args meth c := C
  refine e_lv (lv2 := [(0, .ref v0), (1, .ref v1)]) [0, 1] rfl ?_
  unfold f_X10_readStart at hf
  refine e_aload_n (pc := 0) C dX10_readStart_0 1 rfl rfl ?_
  refine e_aload_n (pc := 1) C dX10_readStart_1 0 rfl rfl ?_
  obtain ⟨t1, hf⟩ := ck_e hf
  refine e_getr (pc := 2) 10 0 C dX10_readStart_2 (by decide) (by decide) g227 rfl t1 ?_
  obtain ⟨b2, eb2, hf⟩ := ob_e hf
  refine e_rf eb2 ?_
  refine e_iconst (v := (0 : Int32)) (pc := 5) C dX10_readStart_5 (by decide) ?_
  refine e_bipush (v := (60 : Int32)) (pc := 6) C dX10_readStart_6 (by decide) ?_
  obtain ⟨t3, hf⟩ := ck_e hf
  obtain ⟨r6, h4, y5, hf⟩ := cb_e hf
  refine e_callVi (pc := 8) (st := [.ref v1]) 8 C (ct_X8_takeNumber y5) dX10_readStart_8 (by decide) t3 g735 g736 g737 g147 g738 hd_X8_takeNumber rfl ⟨Nat.le_of_ble_eq_true rfl, Nat.le_of_ble_eq_true rfl⟩ ⟨Nat.le_of_ble_eq_true rfl, Nat.le_of_ble_eq_true rfl⟩ rfl (Nat.le_of_ble_eq_true rfl) ?_
  obtain ⟨t7, hf⟩ := ck_e hf
  refine e_putiN (pc := 11) 9 1 C dX10_readStart_11 (by decide) (by decide) g318 rfl rfl rfl rfl t7 ?_
  obtain ⟨h8, eh8, hf⟩ := nn_e hf
  refine e_hp eh8 ?_
  have uh8 : m_t h8 = m_t h4 := by rw [eh8]; exact rfl
  refine e_aload_n (pc := 14) C dX10_readStart_14 1 rfl rfl ?_
  refine e_aload_n (pc := 15) C dX10_readStart_15 0 rfl rfl ?_
  obtain ⟨t9, hf⟩ := ck_e hf
  refine e_getr (pc := 16) 10 0 C dX10_readStart_16 (by decide) (by decide) g227 rfl t9 ?_
  obtain ⟨b10, eb10, hf⟩ := ob_e hf
  refine e_rf eb10 ?_
  refine e_iconst (v := (0 : Int32)) (pc := 19) C dX10_readStart_19 (by decide) ?_
  refine e_iconst (v := (3 : Int32)) (pc := 20) C dX10_readStart_20 (by decide) ?_
  obtain ⟨t11, hf⟩ := ck_e hf
  obtain ⟨r14, h12, y13, hf⟩ := cb_e hf
  refine e_callVi (pc := 21) (st := [.ref v1]) 8 C (ct_X8_takeNumber y13) dX10_readStart_21 (by decide) t11 g735 g736 g737 g147 g738 hd_X8_takeNumber rfl ⟨Nat.le_of_ble_eq_true rfl, Nat.le_of_ble_eq_true rfl⟩ ⟨Nat.le_of_ble_eq_true rfl, Nat.le_of_ble_eq_true rfl⟩ rfl (Nat.le_of_ble_eq_true rfl) ?_
  obtain ⟨t15, hf⟩ := ck_e hf
  refine e_putiN (pc := 24) 9 2 C dX10_readStart_24 (by decide) (by decide) g321 rfl rfl rfl rfl t15 ?_
  obtain ⟨h16, eh16, hf⟩ := nn_e hf
  refine e_hp eh16 ?_
  have uh16 : m_t h16 = m_t h12 := by rw [eh16]; exact rfl
  refine e_aload_n (pc := 27) C dX10_readStart_27 1 rfl rfl ?_
  refine e_aload_n (pc := 28) C dX10_readStart_28 0 rfl rfl ?_
  obtain ⟨t17, hf⟩ := ck_e hf
  refine e_getr (pc := 29) 10 0 C dX10_readStart_29 (by decide) (by decide) g227 rfl t17 ?_
  obtain ⟨b18, eb18, hf⟩ := ob_e hf
  refine e_rf eb18 ?_
  refine e_iconst (v := (0 : Int32)) (pc := 32) C dX10_readStart_32 (by decide) ?_
  refine e_bipush (v := (6 : Int32)) (pc := 33) C dX10_readStart_33 (by decide) ?_
  obtain ⟨t19, hf⟩ := ck_e hf
  obtain ⟨r22, h20, y21, hf⟩ := cb_e hf
  refine e_callVi (pc := 35) (st := [.ref v1]) 8 C (ct_X8_takeNumber y21) dX10_readStart_35 (by decide) t19 g735 g736 g737 g147 g738 hd_X8_takeNumber rfl ⟨Nat.le_of_ble_eq_true rfl, Nat.le_of_ble_eq_true rfl⟩ ⟨Nat.le_of_ble_eq_true rfl, Nat.le_of_ble_eq_true rfl⟩ rfl (Nat.le_of_ble_eq_true rfl) ?_
  obtain ⟨t23, hf⟩ := ck_e hf
  refine e_putiN (pc := 38) 9 3 C dX10_readStart_38 (by decide) (by decide) g326 rfl rfl rfl rfl t23 ?_
  obtain ⟨h24, eh24, hf⟩ := nn_e hf
  refine e_hp eh24 ?_
  have uh24 : m_t h24 = m_t h20 := by rw [eh24]; exact rfl
  obtain rfl := so_e hf
  exact e_vret (pc := 41) C hr dX10_readStart_41 (Nat.le_of_ble_eq_true rfl) (Nat.le_of_ble_eq_true rfl)
theorem dX10_readHole_0 : decode cX10_readHole 0 = .ok (.aload_n 1, 1) := by decide +kernel
theorem dX10_readHole_1 : decode cX10_readHole 1 = .ok (.aload_n 0, 1) := by decide +kernel
theorem dX10_readHole_2 : decode cX10_readHole 2 = .ok (.getfield 15, 3) := by decide +kernel
theorem dX10_readHole_5 : decode cX10_readHole 5 = .ok (.iconst 0, 1) := by decide +kernel
theorem dX10_readHole_6 : decode cX10_readHole 6 = .ok (.iconst 5, 1) := by decide +kernel
theorem dX10_readHole_7 : decode cX10_readHole 7 = .ok (.invokevirtual 89, 3) := by decide +kernel
theorem dX10_readHole_10 : decode cX10_readHole 10 = .ok (.putfield 102, 3) := by decide +kernel
theorem dX10_readHole_13 : decode cX10_readHole 13 = .ok (.aload_n 0, 1) := by decide +kernel
theorem dX10_readHole_14 : decode cX10_readHole 14 = .ok (.iconst 1, 1) := by decide +kernel
theorem dX10_readHole_15 : decode cX10_readHole 15 = .ok (.putfield 9, 3) := by decide +kernel
theorem dX10_readHole_18 : decode cX10_readHole 18 = .ok (.return_, 1) := by decide +kernel
def f_X10_readHole (G : GG) (v0 : Nat) (v1 : Nat) (h : AH) : Option (AH) :=
ck (m_t h v0 = .inl 10) <|
ob (m_r h v0 0) fun b2 =>
ck (m_t h b2 = .inl 8) <|
cb (f_X8_takeNumber G b2 (0 : Int32) (5 : Int32) h) fun r6 h4 =>
ck (m_t h4 v1 = .inl 9) <|
nn (m_si h4 v1 4 r6) fun h8 =>
ck (m_t h8 v0 = .inl 10) <|
nn (m_si h8 v0 1 (1 : Int32)) fun h10 =>
some h10
set_option maxHeartbeats 4000000 in
set_option maxRecDepth 100000 in
theorem ct_X10_readHole {G : GG} {l : Launch} {v0 : Nat} {v1 : Nat} {h : AH} {y : AH} (hf : f_X10_readHole G v0 v1 h = some y) : Ct G l yX10_readHole cX10_readHole 2 none 2 44 0 0 [.ref v0, .ref v1] h (none, y) := by
  refine ct_of (by decide) (Nat.le_of_ble_eq_true rfl) ?_
  intro p e s m args below meth c C hm hr hin
  have C : Cx G cX10_readHole RX10 p s m args meth c := C
  refine e_lv (lv2 := [(0, .ref v0), (1, .ref v1)]) [0, 1] rfl ?_
  unfold f_X10_readHole at hf
  refine e_aload_n (pc := 0) C dX10_readHole_0 1 rfl rfl ?_
  refine e_aload_n (pc := 1) C dX10_readHole_1 0 rfl rfl ?_
  obtain ⟨t1, hf⟩ := ck_e hf
  refine e_getr (pc := 2) 10 0 C dX10_readHole_2 (by decide) (by decide) g227 rfl t1 ?_
  obtain ⟨b2, eb2, hf⟩ := ob_e hf
  refine e_rf eb2 ?_
  refine e_iconst (v := (0 : Int32)) (pc := 5) C dX10_readHole_5 (by decide) ?_
  refine e_iconst (v := (5 : Int32)) (pc := 6) C dX10_readHole_6 (by decide) ?_
  obtain ⟨t3, hf⟩ := ck_e hf
  obtain ⟨r6, h4, y5, hf⟩ := cb_e hf
  refine e_callVi (pc := 7) (st := [.ref v1]) 8 C (ct_X8_takeNumber y5) dX10_readHole_7 (by decide) t3 g735 g736 g737 g147 g738 hd_X8_takeNumber rfl ⟨Nat.le_of_ble_eq_true rfl, Nat.le_of_ble_eq_true rfl⟩ ⟨Nat.le_of_ble_eq_true rfl, Nat.le_of_ble_eq_true rfl⟩ rfl (Nat.le_of_ble_eq_true rfl) ?_
  obtain ⟨t7, hf⟩ := ck_e hf
  refine e_putiN (pc := 10) 9 4 C dX10_readHole_10 (by decide) (by decide) g331 rfl rfl rfl rfl t7 ?_
  obtain ⟨h8, eh8, hf⟩ := nn_e hf
  refine e_hp eh8 ?_
  have uh8 : m_t h8 = m_t h4 := by rw [eh8]; exact rfl
  refine e_aload_n (pc := 13) C dX10_readHole_13 0 rfl rfl ?_
  refine e_iconst (v := (1 : Int32)) (pc := 14) C dX10_readHole_14 (by decide) ?_
  obtain ⟨t9, hf⟩ := ck_e hf
  refine e_puti (pc := 15) 10 1 C dX10_readHole_15 (by decide) (by decide) g228 rfl rfl rfl (nz_ok (by decide)) t9 ?_
  obtain ⟨h10, eh10, hf⟩ := nn_e hf
  refine e_hp eh10 ?_
  have uh10 : m_t h10 = m_t h4 := by rw [eh10]; exact uh8
  obtain rfl := so_e hf
  exact e_vret (pc := 18) C hr dX10_readHole_18 (Nat.le_of_ble_eq_true rfl) (Nat.le_of_ble_eq_true rfl)
theorem dX10_readPerson_0 : decode cX10_readPerson 0 = .ok (.aload_n 1, 1) := by decide +kernel
theorem dX10_readPerson_1 : decode cX10_readPerson 1 = .ok (.getfield 105, 3) := by decide +kernel
theorem dX10_readPerson_4 : decode cX10_readPerson 4 = .ok (.aload_n 1, 1) := by decide +kernel
theorem dX10_readPerson_5 : decode cX10_readPerson 5 = .ok (.getfield 80, 3) := by decide +kernel
theorem dX10_readPerson_8 : decode cX10_readPerson 8 = .ok (.aaload, 1) := by decide +kernel
theorem dX10_readPerson_9 : decode cX10_readPerson 9 = .ok (.astore_n 2, 1) := by decide +kernel
theorem dX10_readPerson_10 : decode cX10_readPerson 10 = .ok (.aload_n 2, 1) := by decide +kernel
theorem dX10_readPerson_11 : decode cX10_readPerson 11 = .ok (.aload_n 0, 1) := by decide +kernel
theorem dX10_readPerson_12 : decode cX10_readPerson 12 = .ok (.getfield 15, 3) := by decide +kernel
theorem dX10_readPerson_15 : decode cX10_readPerson 15 = .ok (.iconst 0, 1) := by decide +kernel
theorem dX10_readPerson_16 : decode cX10_readPerson 16 = .ok (.bipush 7, 2) := by decide +kernel
theorem dX10_readPerson_18 : decode cX10_readPerson 18 = .ok (.invokevirtual 89, 3) := by decide +kernel
theorem dX10_readPerson_21 : decode cX10_readPerson 21 = .ok (.putfield 109, 3) := by decide +kernel
theorem dX10_readPerson_24 : decode cX10_readPerson 24 = .ok (.aload_n 2, 1) := by decide +kernel
theorem dX10_readPerson_25 : decode cX10_readPerson 25 = .ok (.aload_n 0, 1) := by decide +kernel
theorem dX10_readPerson_26 : decode cX10_readPerson 26 = .ok (.getfield 15, 3) := by decide +kernel
theorem dX10_readPerson_29 : decode cX10_readPerson 29 = .ok (.iconst 0, 1) := by decide +kernel
theorem dX10_readPerson_30 : decode cX10_readPerson 30 = .ok (.sipush 239, 3) := by decide +kernel
theorem dX10_readPerson_33 : decode cX10_readPerson 33 = .ok (.invokevirtual 89, 3) := by decide +kernel
theorem dX10_readPerson_36 : decode cX10_readPerson 36 = .ok (.putfield 114, 3) := by decide +kernel
theorem dX10_readPerson_39 : decode cX10_readPerson 39 = .ok (.aload_n 2, 1) := by decide +kernel
theorem dX10_readPerson_40 : decode cX10_readPerson 40 = .ok (.aload_n 0, 1) := by decide +kernel
theorem dX10_readPerson_41 : decode cX10_readPerson 41 = .ok (.getfield 15, 3) := by decide +kernel
theorem dX10_readPerson_44 : decode cX10_readPerson 44 = .ok (.aload_n 2, 1) := by decide +kernel
theorem dX10_readPerson_45 : decode cX10_readPerson 45 = .ok (.getfield 114, 3) := by decide +kernel
theorem dX10_readPerson_48 : decode cX10_readPerson 48 = .ok (.iconst 1, 1) := by decide +kernel
theorem dX10_readPerson_49 : decode cX10_readPerson 49 = .ok (.iadd, 1) := by decide +kernel
theorem dX10_readPerson_50 : decode cX10_readPerson 50 = .ok (.sipush 240, 3) := by decide +kernel
theorem dX10_readPerson_53 : decode cX10_readPerson 53 = .ok (.invokevirtual 89, 3) := by decide +kernel
theorem dX10_readPerson_56 : decode cX10_readPerson 56 = .ok (.putfield 117, 3) := by decide +kernel
theorem dX10_readPerson_59 : decode cX10_readPerson 59 = .ok (.aload_n 2, 1) := by decide +kernel
theorem dX10_readPerson_60 : decode cX10_readPerson 60 = .ok (.aload_n 0, 1) := by decide +kernel
theorem dX10_readPerson_61 : decode cX10_readPerson 61 = .ok (.getfield 15, 3) := by decide +kernel
theorem dX10_readPerson_64 : decode cX10_readPerson 64 = .ok (.iconst 0, 1) := by decide +kernel
theorem dX10_readPerson_65 : decode cX10_readPerson 65 = .ok (.bipush 60, 2) := by decide +kernel
theorem dX10_readPerson_67 : decode cX10_readPerson 67 = .ok (.invokevirtual 89, 3) := by decide +kernel
theorem dX10_readPerson_70 : decode cX10_readPerson 70 = .ok (.putfield 120, 3) := by decide +kernel
theorem dX10_readPerson_73 : decode cX10_readPerson 73 = .ok (.aload_n 2, 1) := by decide +kernel
theorem dX10_readPerson_74 : decode cX10_readPerson 74 = .ok (.aload_n 0, 1) := by decide +kernel
theorem dX10_readPerson_75 : decode cX10_readPerson 75 = .ok (.getfield 15, 3) := by decide +kernel
theorem dX10_readPerson_78 : decode cX10_readPerson 78 = .ok (.iconst 0, 1) := by decide +kernel
theorem dX10_readPerson_79 : decode cX10_readPerson 79 = .ok (.bipush 20, 2) := by decide +kernel
theorem dX10_readPerson_81 : decode cX10_readPerson 81 = .ok (.invokevirtual 89, 3) := by decide +kernel
theorem dX10_readPerson_84 : decode cX10_readPerson 84 = .ok (.putfield 121, 3) := by decide +kernel
theorem dX10_readPerson_87 : decode cX10_readPerson 87 = .ok (.aload_n 1, 1) := by decide +kernel
theorem dX10_readPerson_88 : decode cX10_readPerson 88 = .ok (.dup, 1) := by decide +kernel
theorem dX10_readPerson_89 : decode cX10_readPerson 89 = .ok (.getfield 80, 3) := by decide +kernel
theorem dX10_readPerson_92 : decode cX10_readPerson 92 = .ok (.iconst 1, 1) := by decide +kernel
theorem dX10_readPerson_93 : decode cX10_readPerson 93 = .ok (.iadd, 1) := by decide +kernel
theorem dX10_readPerson_94 : decode cX10_readPerson 94 = .ok (.putfield 80, 3) := by decide +kernel
theorem dX10_readPerson_97 : decode cX10_readPerson 97 = .ok (.return_, 1) := by decide +kernel
def f_X10_readPerson (G : GG) (v0 : Nat) (v1 : Nat) (h : AH) : Option (AH) :=
ck (m_t h v1 = .inl 9) <|
ob (m_r h v1 6) fun b2 =>
ck (ixb h b2 (.object RX5) (m_i h v1 5) = true) <|
ob (m_r h b2 (m_i h v1 5).toNatClampNeg) fun b5 =>
ck (m_t h v0 = .inl 10) <|
ob (m_r h v0 0) fun b7 =>
ck (m_t h b7 = .inl 8) <|
cb (f_X8_takeNumber G b7 (0 : Int32) (7 : Int32) h) fun r11 h9 =>
ck (m_t h9 b5 = .inl 5) <|
nn (m_si h9 b5 0 r11) fun h13 =>
ck (m_t h13 v0 = .inl 10) <|
ob (m_r h13 v0 0) fun b15 =>
ck (m_t h13 b15 = .inl 8) <|
cb (f_X8_takeNumber G b15 (0 : Int32) (239 : Int32) h13) fun r19 h17 =>
ck (m_t h17 b5 = .inl 5) <|
nn (m_si h17 b5 1 r19) fun h21 =>
ck (m_t h21 v0 = .inl 10) <|
ob (m_r h21 v0 0) fun b23 =>
ck (m_t h21 b23 = .inl 8) <|
cb (f_X8_takeNumber G b23 ((m_i h21 b5 1) + (1 : Int32)) (240 : Int32) h21) fun r27 h25 =>
ck (m_t h25 b5 = .inl 5) <|
nn (m_si h25 b5 2 r27) fun h29 =>
ck (m_t h29 v0 = .inl 10) <|
ob (m_r h29 v0 0) fun b31 =>
ck (m_t h29 b31 = .inl 8) <|
cb (f_X8_takeNumber G b31 (0 : Int32) (60 : Int32) h29) fun r35 h33 =>
ck (m_t h33 b5 = .inl 5) <|
nn (m_si h33 b5 3 r35) fun h37 =>
ck (m_t h37 v0 = .inl 10) <|
ob (m_r h37 v0 0) fun b39 =>
ck (m_t h37 b39 = .inl 8) <|
cb (f_X8_takeNumber G b39 (0 : Int32) (20 : Int32) h37) fun r43 h41 =>
ck (m_t h41 b5 = .inl 5) <|
nn (m_si h41 b5 4 r43) fun h45 =>
ck (m_t h45 v1 = .inl 9) <|
nn (m_si h45 v1 5 ((m_i h45 v1 5) + (1 : Int32))) fun h47 =>
some h47
set_option maxHeartbeats 4000000 in
set_option maxRecDepth 100000 in
theorem ct_X10_readPerson {G : GG} {l : Launch} {v0 : Nat} {v1 : Nat} {h : AH} {y : AH} (hf : f_X10_readPerson G v0 v1 h = some y) : Ct G l yX10_readPerson cX10_readPerson 3 none 2 44 0 0 [.ref v0, .ref v1] h (none, y) := by
  refine ct_of (by decide) (Nat.le_of_ble_eq_true rfl) ?_
  intro p e s m args below meth c C hm hr hin
  have C : Cx G cX10_readPerson RX10 p s m args meth c := C
  refine e_lv (lv2 := [(0, .ref v0), (1, .ref v1)]) [0, 1] rfl ?_
  unfold f_X10_readPerson at hf
  refine e_aload_n (pc := 0) C dX10_readPerson_0 1 rfl rfl ?_
  obtain ⟨t1, hf⟩ := ck_e hf
  refine e_getrN (pc := 1) 9 6 C dX10_readPerson_1 (by decide) (by decide) g342 rfl t1 ?_
  obtain ⟨b2, eb2, hf⟩ := ob_e hf
  refine e_rf eb2 ?_
  refine e_aload_n (pc := 4) C dX10_readPerson_4 1 rfl rfl ?_
  refine e_getiN (pc := 5) 9 5 C dX10_readPerson_5 (by decide) (by decide) g338 rfl t1 ?_
  obtain ⟨q3, hf⟩ := ck_e hf
  obtain ⟨n4, tn4, in4⟩ := ix_e q3
  refine e_aald (pc := 8) 4 rfl C dX10_readPerson_8 tn4 in4 ?_
  obtain ⟨b5, eb5, hf⟩ := ob_e hf
  refine e_rf eb5 ?_
  refine e_astore_n (pc := 9) (lv2 := [(2, .ref b5), (0, .ref v0), (1, .ref v1)]) C hm dX10_readPerson_9 rfl (by decide) rfl ?_
  refine e_aload_n (pc := 10) C dX10_readPerson_10 0 rfl rfl ?_
  refine e_aload_n (pc := 11) C dX10_readPerson_11 1 rfl rfl ?_
  obtain ⟨t6, hf⟩ := ck_e hf
  refine e_getr (pc := 12) 10 0 C dX10_readPerson_12 (by decide) (by decide) g227 rfl t6 ?_
  obtain ⟨b7, eb7, hf⟩ := ob_e hf
  refine e_rf eb7 ?_
  refine e_iconst (v := (0 : Int32)) (pc := 15) C dX10_readPerson_15 (by decide) ?_
  refine e_bipush (v := (7 : Int32)) (pc := 16) C dX10_readPerson_16 (by decide) ?_
  obtain ⟨t8, hf⟩ := ck_e hf
  obtain ⟨r11, h9, y10, hf⟩ := cb_e hf
  refine e_callVi (pc := 18) (st := [.ref b5]) 8 C (ct_X8_takeNumber y10) dX10_readPerson_18 (by decide) t8 g735 g736 g737 g147 g738 hd_X8_takeNumber rfl ⟨Nat.le_of_ble_eq_true rfl, Nat.le_of_ble_eq_true rfl⟩ ⟨Nat.le_of_ble_eq_true rfl, Nat.le_of_ble_eq_true rfl⟩ rfl (Nat.le_of_ble_eq_true rfl) ?_
  obtain ⟨t12, hf⟩ := ck_e hf
  refine e_putiN (pc := 21) 5 0 C dX10_readPerson_21 (by decide) (by decide) g273 rfl rfl rfl rfl t12 ?_
  obtain ⟨h13, eh13, hf⟩ := nn_e hf
  refine e_hp eh13 ?_
  have uh13 : m_t h13 = m_t h9 := by rw [eh13]; exact rfl
  refine e_aload_n (pc := 24) C dX10_readPerson_24 0 rfl rfl ?_
  refine e_aload_n (pc := 25) C dX10_readPerson_25 1 rfl rfl ?_
  obtain ⟨t14, hf⟩ := ck_e hf
  refine e_getr (pc := 26) 10 0 C dX10_readPerson_26 (by decide) (by decide) g227 rfl t14 ?_
  obtain ⟨b15, eb15, hf⟩ := ob_e hf
  refine e_rf eb15 ?_
  refine e_iconst (v := (0 : Int32)) (pc := 29) C dX10_readPerson_29 (by decide) ?_
  refine e_sipush (v := (239 : Int32)) (pc := 30) C dX10_readPerson_30 (by decide) ?_
  obtain ⟨t16, hf⟩ := ck_e hf
  obtain ⟨r19, h17, y18, hf⟩ := cb_e hf
  refine e_callVi (pc := 33) (st := [.ref b5]) 8 C (ct_X8_takeNumber y18) dX10_readPerson_33 (by decide) t16 g735 g736 g737 g147 g738 hd_X8_takeNumber rfl ⟨Nat.le_of_ble_eq_true rfl, Nat.le_of_ble_eq_true rfl⟩ ⟨Nat.le_of_ble_eq_true rfl, Nat.le_of_ble_eq_true rfl⟩ rfl (Nat.le_of_ble_eq_true rfl) ?_
  obtain ⟨t20, hf⟩ := ck_e hf
  refine e_putiN (pc := 36) 5 1 C dX10_readPerson_36 (by decide) (by decide) g277 rfl rfl rfl rfl t20 ?_
  obtain ⟨h21, eh21, hf⟩ := nn_e hf
  refine e_hp eh21 ?_
  have uh21 : m_t h21 = m_t h17 := by rw [eh21]; exact rfl
  refine e_aload_n (pc := 39) C dX10_readPerson_39 0 rfl rfl ?_
  refine e_aload_n (pc := 40) C dX10_readPerson_40 1 rfl rfl ?_
  obtain ⟨t22, hf⟩ := ck_e hf
  refine e_getr (pc := 41) 10 0 C dX10_readPerson_41 (by decide) (by decide) g227 rfl t22 ?_
  obtain ⟨b23, eb23, hf⟩ := ob_e hf
  refine e_rf eb23 ?_
  refine e_aload_n (pc := 44) C dX10_readPerson_44 0 rfl rfl ?_
  refine e_getiN (pc := 45) 5 1 C dX10_readPerson_45 (by decide) (by decide) g277 rfl (e_mt uh21 t20) ?_
  refine e_iconst (v := (1 : Int32)) (pc := 48) C dX10_readPerson_48 (by decide) ?_
  refine e_iadd (pc := 49) C dX10_readPerson_49 ?_
  refine e_sipush (v := (240 : Int32)) (pc := 50) C dX10_readPerson_50 (by decide) ?_
  obtain ⟨t24, hf⟩ := ck_e hf
  obtain ⟨r27, h25, y26, hf⟩ := cb_e hf
  refine e_callVi (pc := 53) (st := [.ref b5]) 8 C (ct_X8_takeNumber y26) dX10_readPerson_53 (by decide) t24 g735 g736 g737 g147 g738 hd_X8_takeNumber rfl ⟨Nat.le_of_ble_eq_true rfl, Nat.le_of_ble_eq_true rfl⟩ ⟨Nat.le_of_ble_eq_true rfl, Nat.le_of_ble_eq_true rfl⟩ rfl (Nat.le_of_ble_eq_true rfl) ?_
  obtain ⟨t28, hf⟩ := ck_e hf
  refine e_putiN (pc := 56) 5 2 C dX10_readPerson_56 (by decide) (by decide) g280 rfl rfl rfl rfl t28 ?_
  obtain ⟨h29, eh29, hf⟩ := nn_e hf
  refine e_hp eh29 ?_
  have uh29 : m_t h29 = m_t h25 := by rw [eh29]; exact rfl
  refine e_aload_n (pc := 59) C dX10_readPerson_59 0 rfl rfl ?_
  refine e_aload_n (pc := 60) C dX10_readPerson_60 1 rfl rfl ?_
  obtain ⟨t30, hf⟩ := ck_e hf
  refine e_getr (pc := 61) 10 0 C dX10_readPerson_61 (by decide) (by decide) g227 rfl t30 ?_
  obtain ⟨b31, eb31, hf⟩ := ob_e hf
  refine e_rf eb31 ?_
  refine e_iconst (v := (0 : Int32)) (pc := 64) C dX10_readPerson_64 (by decide) ?_
  refine e_bipush (v := (60 : Int32)) (pc := 65) C dX10_readPerson_65 (by decide) ?_
  obtain ⟨t32, hf⟩ := ck_e hf
  obtain ⟨r35, h33, y34, hf⟩ := cb_e hf
  refine e_callVi (pc := 67) (st := [.ref b5]) 8 C (ct_X8_takeNumber y34) dX10_readPerson_67 (by decide) t32 g735 g736 g737 g147 g738 hd_X8_takeNumber rfl ⟨Nat.le_of_ble_eq_true rfl, Nat.le_of_ble_eq_true rfl⟩ ⟨Nat.le_of_ble_eq_true rfl, Nat.le_of_ble_eq_true rfl⟩ rfl (Nat.le_of_ble_eq_true rfl) ?_
  obtain ⟨t36, hf⟩ := ck_e hf
  refine e_putiN (pc := 70) 5 3 C dX10_readPerson_70 (by decide) (by decide) g283 rfl rfl rfl rfl t36 ?_
  obtain ⟨h37, eh37, hf⟩ := nn_e hf
  refine e_hp eh37 ?_
  have uh37 : m_t h37 = m_t h33 := by rw [eh37]; exact rfl
  refine e_aload_n (pc := 73) C dX10_readPerson_73 0 rfl rfl ?_
  refine e_aload_n (pc := 74) C dX10_readPerson_74 1 rfl rfl ?_
  obtain ⟨t38, hf⟩ := ck_e hf
  refine e_getr (pc := 75) 10 0 C dX10_readPerson_75 (by decide) (by decide) g227 rfl t38 ?_
  obtain ⟨b39, eb39, hf⟩ := ob_e hf
  refine e_rf eb39 ?_
  refine e_iconst (v := (0 : Int32)) (pc := 78) C dX10_readPerson_78 (by decide) ?_
  refine e_bipush (v := (20 : Int32)) (pc := 79) C dX10_readPerson_79 (by decide) ?_
  obtain ⟨t40, hf⟩ := ck_e hf
  obtain ⟨r43, h41, y42, hf⟩ := cb_e hf
  refine e_callVi (pc := 81) (st := [.ref b5]) 8 C (ct_X8_takeNumber y42) dX10_readPerson_81 (by decide) t40 g735 g736 g737 g147 g738 hd_X8_takeNumber rfl ⟨Nat.le_of_ble_eq_true rfl, Nat.le_of_ble_eq_true rfl⟩ ⟨Nat.le_of_ble_eq_true rfl, Nat.le_of_ble_eq_true rfl⟩ rfl (Nat.le_of_ble_eq_true rfl) ?_
  obtain ⟨t44, hf⟩ := ck_e hf
  refine e_putiN (pc := 84) 5 4 C dX10_readPerson_84 (by decide) (by decide) g287 rfl rfl rfl rfl t44 ?_
  obtain ⟨h45, eh45, hf⟩ := nn_e hf
  refine e_hp eh45 ?_
  have uh45 : m_t h45 = m_t h41 := by rw [eh45]; exact rfl
  refine e_aload_n (pc := 87) C dX10_readPerson_87 2 rfl rfl ?_
  refine e_dup (pc := 88) C dX10_readPerson_88 rfl ?_
  obtain ⟨t46, hf⟩ := ck_e hf
  refine e_getiN (pc := 89) 9 5 C dX10_readPerson_89 (by decide) (by decide) g338 rfl t46 ?_
  refine e_iconst (v := (1 : Int32)) (pc := 92) C dX10_readPerson_92 (by decide) ?_
  refine e_iadd (pc := 93) C dX10_readPerson_93 ?_
  refine e_putiN (pc := 94) 9 5 C dX10_readPerson_94 (by decide) (by decide) g338 rfl rfl rfl rfl t46 ?_
  obtain ⟨h47, eh47, hf⟩ := nn_e hf
  refine e_hp eh47 ?_
  have uh47 : m_t h47 = m_t h41 := by rw [eh47]; exact uh45
  obtain rfl := so_e hf
  exact e_vret (pc := 97) C hr dX10_readPerson_97 (Nat.le_of_ble_eq_true rfl) (Nat.le_of_ble_eq_true rfl)
theorem dX10_readFront_0 : decode cX10_readFront 0 = .ok (.aload_n 0, 1) := by decide +kernel
theorem dX10_readFront_1 : decode cX10_readFront 1 = .ok (.getfield 15, 3) := by decide +kernel
theorem dX10_readFront_4 : decode cX10_readFront 4 = .ok (.iconst 0, 1) := by decide +kernel
theorem dX10_readFront_5 : decode cX10_readFront 5 = .ok (.aload_n 1, 1) := by decide +kernel
theorem dX10_readFront_6 : decode cX10_readFront 6 = .ok (.getfield 80, 3) := by decide +kernel
theorem dX10_readFront_9 : decode cX10_readFront 9 = .ok (.iconst 1, 1) := by decide +kernel
theorem dX10_readFront_10 : decode cX10_readFront 10 = .ok (.isub, 1) := by decide +kernel
theorem dX10_readFront_11 : decode cX10_readFront 11 = .ok (.invokevirtual 89, 3) := by decide +kernel
theorem dX10_readFront_14 : decode cX10_readFront 14 = .ok (.istore_n 2, 1) := by decide +kernel
theorem dX10_readFront_15 : decode cX10_readFront 15 = .ok (.aload_n 1, 1) := by decide +kernel
theorem dX10_readFront_16 : decode cX10_readFront 16 = .ok (.iload_n 2, 1) := by decide +kernel
theorem dX10_readFront_17 : decode cX10_readFront 17 = .ok (.invokevirtual 124, 3) := by decide +kernel
theorem dX10_readFront_20 : decode cX10_readFront 20 = .ok (.ifCond .eq 13, 3) := by decide +kernel
theorem dX10_readFront_23 : decode cX10_readFront 23 = .ok (.aload_n 1, 1) := by decide +kernel
theorem dX10_readFront_24 : decode cX10_readFront 24 = .ok (.getfield 105, 3) := by decide +kernel
theorem dX10_readFront_27 : decode cX10_readFront 27 = .ok (.iload_n 2, 1) := by decide +kernel
theorem dX10_readFront_28 : decode cX10_readFront 28 = .ok (.aaload, 1) := by decide +kernel
theorem dX10_readFront_29 : decode cX10_readFront 29 = .ok (.iconst 1, 1) := by decide +kernel
theorem dX10_readFront_30 : decode cX10_readFront 30 = .ok (.putfield 128, 3) := by decide +kernel
theorem dX10_readFront_33 : decode cX10_readFront 33 = .ok (.return_, 1) := by decide +kernel
def f_X10_readFront (G : GG) (v0 : Nat) (v1 : Nat) (h : AH) : Option (AH) :=
ck (m_t h v0 = .inl 10) <|
ob (m_r h v0 0) fun b2 =>
ck (m_t h v1 = .inl 9) <|
ck (m_t h b2 = .inl 8) <|
cb (f_X8_takeNumber G b2 (0 : Int32) ((m_i h v1 5) - (1 : Int32)) h) fun r7 h5 =>
ck (m_t h5 v1 = .inl 9) <|
cb (f_X9_hasPerson G v1 r7 h5) fun r11 h9 =>
if r11 = 0 then (some h9) else
ck (m_t h9 v1 = .inl 9) <|
ob (m_r h9 v1 6) fun b14 =>
ck (ixb h9 b14 (.object RX5) r7 = true) <|
ob (m_r h9 b14 r7.toNatClampNeg) fun b17 =>
ck (m_t h9 b17 = .inl 5) <|
nn (m_si h9 b17 6 (1 : Int32)) fun h19 =>
some h19
set_option maxHeartbeats 4000000 in
set_option maxRecDepth 100000 in
theorem ct_X10_readFront {G : GG} {l : Launch} {v0 : Nat} {v1 : Nat} {h : AH} {y : AH} (hf : f_X10_readFront G v0 v1 h = some y) : Ct G l yX10_readFront cX10_readFront 3 none 2 44 0 0 [.ref v0, .ref v1] h (none, y) := by
  refine ct_of (by decide) (Nat.le_of_ble_eq_true rfl) ?_
  intro p e s m args below meth c C hm hr hin
  have C : Cx G cX10_readFront RX10 p s m args meth c := C
  refine e_lv (lv2 := [(0, .ref v0), (1, .ref v1)]) [0, 1] rfl ?_
  unfold f_X10_readFront at hf
  refine e_aload_n (pc := 0) C dX10_readFront_0 0 rfl rfl ?_
  obtain ⟨t1, hf⟩ := ck_e hf
  refine e_getr (pc := 1) 10 0 C dX10_readFront_1 (by decide) (by decide) g227 rfl t1 ?_
  obtain ⟨b2, eb2, hf⟩ := ob_e hf
  refine e_rf eb2 ?_
  refine e_iconst (v := (0 : Int32)) (pc := 4) C dX10_readFront_4 (by decide) ?_
  refine e_aload_n (pc := 5) C dX10_readFront_5 1 rfl rfl ?_
  obtain ⟨t3, hf⟩ := ck_e hf
  refine e_getiN (pc := 6) 9 5 C dX10_readFront_6 (by decide) (by decide) g338 rfl t3 ?_
  refine e_iconst (v := (1 : Int32)) (pc := 9) C dX10_readFront_9 (by decide) ?_
  refine e_isub (pc := 10) C dX10_readFront_10 ?_
  obtain ⟨t4, hf⟩ := ck_e hf
  obtain ⟨r7, h5, y6, hf⟩ := cb_e hf
  refine e_callVi (pc := 11) (st := []) 8 C (ct_X8_takeNumber y6) dX10_readFront_11 (by decide) t4 g735 g736 g737 g147 g738 hd_X8_takeNumber rfl ⟨Nat.le_of_ble_eq_true rfl, Nat.le_of_ble_eq_true rfl⟩ ⟨Nat.le_of_ble_eq_true rfl, Nat.le_of_ble_eq_true rfl⟩ rfl (Nat.le_of_ble_eq_true rfl) ?_
  refine e_istore_n (pc := 14) (lv2 := [(2, .int r7), (0, .ref v0), (1, .ref v1)]) C hm dX10_readFront_14 rfl (by decide) rfl ?_
  refine e_aload_n (pc := 15) C dX10_readFront_15 2 rfl rfl ?_
  refine e_iload_n (pc := 16) C dX10_readFront_16 0 rfl rfl ?_
  obtain ⟨t8, hf⟩ := ck_e hf
  obtain ⟨r11, h9, y10, hf⟩ := cb_e hf
  refine e_callVi (pc := 17) (st := []) 9 C (ct_X9_hasPerson y10) dX10_readFront_17 (by decide) t8 g752 g753 g754 g152 g755 hd_X9_hasPerson rfl ⟨Nat.le_of_ble_eq_true rfl, Nat.le_of_ble_eq_true rfl⟩ ⟨Nat.le_of_ble_eq_true rfl, Nat.le_of_ble_eq_true rfl⟩ rfl (Nat.le_of_ble_eq_true rfl) ?_
  rcases it_e hf with ⟨c12, hf⟩ | ⟨c12, hf⟩
  · refine e_if_eq (pc := 20) (tgt := 33) C dX10_readFront_20 (by decide) (fun _ => ?_) (fun q => absurd c12 q)
    obtain rfl := so_e hf
    exact e_vret (pc := 33) C hr dX10_readFront_33 (Nat.le_of_ble_eq_true rfl) (Nat.le_of_ble_eq_true rfl)
  · refine e_if_eq (pc := 20) (tgt := 33) C dX10_readFront_20 (by decide) (fun q => absurd q c12) (fun _ => ?_)
    refine e_aload_n (pc := 23) C dX10_readFront_23 2 rfl rfl ?_
    obtain ⟨t13, hf⟩ := ck_e hf
    refine e_getrN (pc := 24) 9 6 C dX10_readFront_24 (by decide) (by decide) g342 rfl t13 ?_
    obtain ⟨b14, eb14, hf⟩ := ob_e hf
    refine e_rf eb14 ?_
    refine e_iload_n (pc := 27) C dX10_readFront_27 0 rfl rfl ?_
    obtain ⟨q15, hf⟩ := ck_e hf
    obtain ⟨n16, tn16, in16⟩ := ix_e q15
    refine e_aald (pc := 28) 4 rfl C dX10_readFront_28 tn16 in16 ?_
    obtain ⟨b17, eb17, hf⟩ := ob_e hf
    refine e_rf eb17 ?_
    refine e_iconst (v := (1 : Int32)) (pc := 29) C dX10_readFront_29 (by decide) ?_
    obtain ⟨t18, hf⟩ := ck_e hf
    refine e_putiN (pc := 30) 5 6 C dX10_readFront_30 (by decide) (by decide) g295 rfl rfl rfl (nz_ok (by decide)) t18 ?_
    obtain ⟨h19, eh19, hf⟩ := nn_e hf
    refine e_hp eh19 ?_
    have uh19 : m_t h19 = m_t h9 := by rw [eh19]; exact rfl
    obtain rfl := so_e hf
    exact e_vret (pc := 33) C hr dX10_readFront_33 (Nat.le_of_ble_eq_true rfl) (Nat.le_of_ble_eq_true rfl)
theorem dX10_readSays_0 : decode cX10_readSays 0 = .ok (.aload_n 0, 1) := by decide +kernel
theorem dX10_readSays_1 : decode cX10_readSays 1 = .ok (.getfield 15, 3) := by decide +kernel
theorem dX10_readSays_4 : decode cX10_readSays 4 = .ok (.iconst 0, 1) := by decide +kernel
theorem dX10_readSays_5 : decode cX10_readSays 5 = .ok (.aload_n 1, 1) := by decide +kernel
theorem dX10_readSays_6 : decode cX10_readSays 6 = .ok (.getfield 80, 3) := by decide +kernel
theorem dX10_readSays_9 : decode cX10_readSays 9 = .ok (.iconst 1, 1) := by decide +kernel
theorem dX10_readSays_10 : decode cX10_readSays 10 = .ok (.isub, 1) := by decide +kernel
theorem dX10_readSays_11 : decode cX10_readSays 11 = .ok (.invokevirtual 89, 3) := by decide +kernel
theorem dX10_readSays_14 : decode cX10_readSays 14 = .ok (.istore_n 2, 1) := by decide +kernel
theorem dX10_readSays_15 : decode cX10_readSays 15 = .ok (.aload_n 0, 1) := by decide +kernel
theorem dX10_readSays_16 : decode cX10_readSays 16 = .ok (.getfield 15, 3) := by decide +kernel
theorem dX10_readSays_19 : decode cX10_readSays 19 = .ok (.iconst 0, 1) := by decide +kernel
theorem dX10_readSays_20 : decode cX10_readSays 20 = .ok (.bipush 18, 2) := by decide +kernel
theorem dX10_readSays_22 : decode cX10_readSays 22 = .ok (.invokevirtual 89, 3) := by decide +kernel
theorem dX10_readSays_25 : decode cX10_readSays 25 = .ok (.istore_n 3, 1) := by decide +kernel
theorem dX10_readSays_26 : decode cX10_readSays 26 = .ok (.aload_n 1, 1) := by decide +kernel
theorem dX10_readSays_27 : decode cX10_readSays 27 = .ok (.iload_n 2, 1) := by decide +kernel
theorem dX10_readSays_28 : decode cX10_readSays 28 = .ok (.invokevirtual 124, 3) := by decide +kernel
theorem dX10_readSays_31 : decode cX10_readSays 31 = .ok (.ifCond .eq 16, 3) := by decide +kernel
theorem dX10_readSays_34 : decode cX10_readSays 34 = .ok (.aload_n 1, 1) := by decide +kernel
theorem dX10_readSays_35 : decode cX10_readSays 35 = .ok (.getfield 105, 3) := by decide +kernel
theorem dX10_readSays_38 : decode cX10_readSays 38 = .ok (.iload_n 2, 1) := by decide +kernel
theorem dX10_readSays_39 : decode cX10_readSays 39 = .ok (.aaload, 1) := by decide +kernel
theorem dX10_readSays_40 : decode cX10_readSays 40 = .ok (.iload_n 3, 1) := by decide +kernel
theorem dX10_readSays_41 : decode cX10_readSays 41 = .ok (.bipush 9, 2) := by decide +kernel
theorem dX10_readSays_43 : decode cX10_readSays 43 = .ok (.isub, 1) := by decide +kernel
theorem dX10_readSays_44 : decode cX10_readSays 44 = .ok (.putfield 131, 3) := by decide +kernel
theorem dX10_readSays_47 : decode cX10_readSays 47 = .ok (.return_, 1) := by decide +kernel
def f_X10_readSays (G : GG) (v0 : Nat) (v1 : Nat) (h : AH) : Option (AH) :=
ck (m_t h v0 = .inl 10) <|
ob (m_r h v0 0) fun b2 =>
ck (m_t h v1 = .inl 9) <|
ck (m_t h b2 = .inl 8) <|
cb (f_X8_takeNumber G b2 (0 : Int32) ((m_i h v1 5) - (1 : Int32)) h) fun r7 h5 =>
ck (m_t h5 v0 = .inl 10) <|
ob (m_r h5 v0 0) fun b9 =>
ck (m_t h5 b9 = .inl 8) <|
cb (f_X8_takeNumber G b9 (0 : Int32) (18 : Int32) h5) fun r13 h11 =>
ck (m_t h11 v1 = .inl 9) <|
cb (f_X9_hasPerson G v1 r7 h11) fun r17 h15 =>
if r17 = 0 then (some h15) else
ck (m_t h15 v1 = .inl 9) <|
ob (m_r h15 v1 6) fun b20 =>
ck (ixb h15 b20 (.object RX5) r7 = true) <|
ob (m_r h15 b20 r7.toNatClampNeg) fun b23 =>
ck (m_t h15 b23 = .inl 5) <|
nn (m_si h15 b23 5 (r13 - (9 : Int32))) fun h25 =>
some h25
set_option maxHeartbeats 4000000 in
set_option maxRecDepth 100000 in
theorem ct_X10_readSays {G : GG} {l : Launch} {v0 : Nat} {v1 : Nat} {h : AH} {y : AH} (hf : f_X10_readSays G v0 v1 h = some y) : Ct G l yX10_readSays cX10_readSays 4 none 2 44 0 0 [.ref v0, .ref v1] h (none, y) := by
  refine ct_of (by decide) (Nat.le_of_ble_eq_true rfl) ?_
  intro p e s m args below meth c C hm hr hin
  have C : Cx G cX10_readSays RX10 p s m args meth c := C
  refine e_lv (lv2 := [(0, .ref v0), (1, .ref v1)]) [0, 1] rfl ?_
  unfold f_X10_readSays at hf
  refine e_aload_n (pc := 0) C dX10_readSays_0 0 rfl rfl ?_
  obtain ⟨t1, hf⟩ := ck_e hf
  refine e_getr (pc := 1) 10 0 C dX10_readSays_1 (by decide) (by decide) g227 rfl t1 ?_
  obtain ⟨b2, eb2, hf⟩ := ob_e hf
  refine e_rf eb2 ?_
  refine e_iconst (v := (0 : Int32)) (pc := 4) C dX10_readSays_4 (by decide) ?_
  refine e_aload_n (pc := 5) C dX10_readSays_5 1 rfl rfl ?_
  obtain ⟨t3, hf⟩ := ck_e hf
  refine e_getiN (pc := 6) 9 5 C dX10_readSays_6 (by decide) (by decide) g338 rfl t3 ?_
  refine e_iconst (v := (1 : Int32)) (pc := 9) C dX10_readSays_9 (by decide) ?_
  refine e_isub (pc := 10) C dX10_readSays_10 ?_
  obtain ⟨t4, hf⟩ := ck_e hf
  obtain ⟨r7, h5, y6, hf⟩ := cb_e hf
  refine e_callVi (pc := 11) (st := []) 8 C (ct_X8_takeNumber y6) dX10_readSays_11 (by decide) t4 g735 g736 g737 g147 g738 hd_X8_takeNumber rfl ⟨Nat.le_of_ble_eq_true rfl, Nat.le_of_ble_eq_true rfl⟩ ⟨Nat.le_of_ble_eq_true rfl, Nat.le_of_ble_eq_true rfl⟩ rfl (Nat.le_of_ble_eq_true rfl) ?_
  refine e_istore_n (pc := 14) (lv2 := [(2, .int r7), (0, .ref v0), (1, .ref v1)]) C hm dX10_readSays_14 rfl (by decide) rfl ?_
  refine e_aload_n (pc := 15) C dX10_readSays_15 1 rfl rfl ?_
  obtain ⟨t8, hf⟩ := ck_e hf
  refine e_getr (pc := 16) 10 0 C dX10_readSays_16 (by decide) (by decide) g227 rfl t8 ?_
  obtain ⟨b9, eb9, hf⟩ := ob_e hf
  refine e_rf eb9 ?_
  refine e_iconst (v := (0 : Int32)) (pc := 19) C dX10_readSays_19 (by decide) ?_
  refine e_bipush (v := (18 : Int32)) (pc := 20) C dX10_readSays_20 (by decide) ?_
  obtain ⟨t10, hf⟩ := ck_e hf
  obtain ⟨r13, h11, y12, hf⟩ := cb_e hf
  refine e_callVi (pc := 22) (st := []) 8 C (ct_X8_takeNumber y12) dX10_readSays_22 (by decide) t10 g735 g736 g737 g147 g738 hd_X8_takeNumber rfl ⟨Nat.le_of_ble_eq_true rfl, Nat.le_of_ble_eq_true rfl⟩ ⟨Nat.le_of_ble_eq_true rfl, Nat.le_of_ble_eq_true rfl⟩ rfl (Nat.le_of_ble_eq_true rfl) ?_
  refine e_istore_n (pc := 25) (lv2 := [(3, .int r13), (2, .int r7), (0, .ref v0), (1, .ref v1)]) C hm dX10_readSays_25 rfl (by decide) rfl ?_
  refine e_aload_n (pc := 26) C dX10_readSays_26 3 rfl rfl ?_
  refine e_iload_n (pc := 27) C dX10_readSays_27 1 rfl rfl ?_
  obtain ⟨t14, hf⟩ := ck_e hf
  obtain ⟨r17, h15, y16, hf⟩ := cb_e hf
  refine e_callVi (pc := 28) (st := []) 9 C (ct_X9_hasPerson y16) dX10_readSays_28 (by decide) t14 g752 g753 g754 g152 g755 hd_X9_hasPerson rfl ⟨Nat.le_of_ble_eq_true rfl, Nat.le_of_ble_eq_true rfl⟩ ⟨Nat.le_of_ble_eq_true rfl, Nat.le_of_ble_eq_true rfl⟩ rfl (Nat.le_of_ble_eq_true rfl) ?_
  rcases it_e hf with ⟨c18, hf⟩ | ⟨c18, hf⟩
  · refine e_if_eq (pc := 31) (tgt := 47) C dX10_readSays_31 (by decide) (fun _ => ?_) (fun q => absurd c18 q)
    obtain rfl := so_e hf
    exact e_vret (pc := 47) C hr dX10_readSays_47 (Nat.le_of_ble_eq_true rfl) (Nat.le_of_ble_eq_true rfl)
  · refine e_if_eq (pc := 31) (tgt := 47) C dX10_readSays_31 (by decide) (fun q => absurd q c18) (fun _ => ?_)
    refine e_aload_n (pc := 34) C dX10_readSays_34 3 rfl rfl ?_
    obtain ⟨t19, hf⟩ := ck_e hf
    refine e_getrN (pc := 35) 9 6 C dX10_readSays_35 (by decide) (by decide) g342 rfl t19 ?_
    obtain ⟨b20, eb20, hf⟩ := ob_e hf
    refine e_rf eb20 ?_
    refine e_iload_n (pc := 38) C dX10_readSays_38 1 rfl rfl ?_
    obtain ⟨q21, hf⟩ := ck_e hf
    obtain ⟨n22, tn22, in22⟩ := ix_e q21
    refine e_aald (pc := 39) 4 rfl C dX10_readSays_39 tn22 in22 ?_
    obtain ⟨b23, eb23, hf⟩ := ob_e hf
    refine e_rf eb23 ?_
    refine e_iload_n (pc := 40) C dX10_readSays_40 0 rfl rfl ?_
    refine e_bipush (v := (9 : Int32)) (pc := 41) C dX10_readSays_41 (by decide) ?_
    refine e_isub (pc := 43) C dX10_readSays_43 ?_
    obtain ⟨t24, hf⟩ := ck_e hf
    refine e_putiN (pc := 44) 5 5 C dX10_readSays_44 (by decide) (by decide) g292 rfl rfl rfl rfl t24 ?_
    obtain ⟨h25, eh25, hf⟩ := nn_e hf
    refine e_hp eh25 ?_
    have uh25 : m_t h25 = m_t h15 := by rw [eh25]; exact rfl
    obtain rfl := so_e hf
    exact e_vret (pc := 47) C hr dX10_readSays_47 (Nat.le_of_ble_eq_true rfl) (Nat.le_of_ble_eq_true rfl)
theorem dX10_readTunnel_0 : decode cX10_readTunnel 0 = .ok (.aload_n 0, 1) := by decide +kernel
theorem dX10_readTunnel_1 : decode cX10_readTunnel 1 = .ok (.getfield 15, 3) := by decide +kernel
theorem dX10_readTunnel_4 : decode cX10_readTunnel 4 = .ok (.iconst 0, 1) := by decide +kernel
theorem dX10_readTunnel_5 : decode cX10_readTunnel 5 = .ok (.sipush 239, 3) := by decide +kernel
theorem dX10_readTunnel_8 : decode cX10_readTunnel 8 = .ok (.invokevirtual 89, 3) := by decide +kernel
theorem dX10_readTunnel_11 : decode cX10_readTunnel 11 = .ok (.istore_n 2, 1) := by decide +kernel
theorem dX10_readTunnel_12 : decode cX10_readTunnel 12 = .ok (.aload_n 1, 1) := by decide +kernel
theorem dX10_readTunnel_13 : decode cX10_readTunnel 13 = .ok (.getfield 134, 3) := by decide +kernel
theorem dX10_readTunnel_16 : decode cX10_readTunnel 16 = .ok (.aload_n 1, 1) := by decide +kernel
theorem dX10_readTunnel_17 : decode cX10_readTunnel 17 = .ok (.getfield 83, 3) := by decide +kernel
theorem dX10_readTunnel_20 : decode cX10_readTunnel 20 = .ok (.iload_n 2, 1) := by decide +kernel
theorem dX10_readTunnel_21 : decode cX10_readTunnel 21 = .ok (.iastore, 1) := by decide +kernel
theorem dX10_readTunnel_22 : decode cX10_readTunnel 22 = .ok (.aload_n 1, 1) := by decide +kernel
theorem dX10_readTunnel_23 : decode cX10_readTunnel 23 = .ok (.getfield 138, 3) := by decide +kernel
theorem dX10_readTunnel_26 : decode cX10_readTunnel 26 = .ok (.aload_n 1, 1) := by decide +kernel
theorem dX10_readTunnel_27 : decode cX10_readTunnel 27 = .ok (.getfield 83, 3) := by decide +kernel
theorem dX10_readTunnel_30 : decode cX10_readTunnel 30 = .ok (.aload_n 0, 1) := by decide +kernel
theorem dX10_readTunnel_31 : decode cX10_readTunnel 31 = .ok (.getfield 15, 3) := by decide +kernel
theorem dX10_readTunnel_34 : decode cX10_readTunnel 34 = .ok (.iload_n 2, 1) := by decide +kernel
theorem dX10_readTunnel_35 : decode cX10_readTunnel 35 = .ok (.sipush 239, 3) := by decide +kernel
theorem dX10_readTunnel_38 : decode cX10_readTunnel 38 = .ok (.invokevirtual 89, 3) := by decide +kernel
theorem dX10_readTunnel_41 : decode cX10_readTunnel 41 = .ok (.iastore, 1) := by decide +kernel
theorem dX10_readTunnel_42 : decode cX10_readTunnel 42 = .ok (.aload_n 1, 1) := by decide +kernel
theorem dX10_readTunnel_43 : decode cX10_readTunnel 43 = .ok (.dup, 1) := by decide +kernel
theorem dX10_readTunnel_44 : decode cX10_readTunnel 44 = .ok (.getfield 83, 3) := by decide +kernel
theorem dX10_readTunnel_47 : decode cX10_readTunnel 47 = .ok (.iconst 1, 1) := by decide +kernel
theorem dX10_readTunnel_48 : decode cX10_readTunnel 48 = .ok (.iadd, 1) := by decide +kernel
theorem dX10_readTunnel_49 : decode cX10_readTunnel 49 = .ok (.putfield 83, 3) := by decide +kernel
theorem dX10_readTunnel_52 : decode cX10_readTunnel 52 = .ok (.return_, 1) := by decide +kernel
def f_X10_readTunnel (G : GG) (v0 : Nat) (v1 : Nat) (h : AH) : Option (AH) :=
ck (m_t h v0 = .inl 10) <|
ob (m_r h v0 0) fun b2 =>
ck (m_t h b2 = .inl 8) <|
cb (f_X8_takeNumber G b2 (0 : Int32) (239 : Int32) h) fun r6 h4 =>
ck (m_t h4 v1 = .inl 9) <|
ob (m_r h4 v1 8) fun b8 =>
ck (ixb h4 b8 .int (m_i h4 v1 7) = true) <|
nn (m_si h4 b8 (m_i h4 v1 7).toNatClampNeg r6) fun h11 =>
ob (m_r h11 v1 9) fun b12 =>
ck (m_t h11 v0 = .inl 10) <|
ob (m_r h11 v0 0) fun b14 =>
ck (m_t h11 b14 = .inl 8) <|
cb (f_X8_takeNumber G b14 r6 (239 : Int32) h11) fun r18 h16 =>
ck (ixb h16 b12 .int (m_i h11 v1 7) = true) <|
nn (m_si h16 b12 (m_i h11 v1 7).toNatClampNeg r18) fun h21 =>
ck (m_t h21 v1 = .inl 9) <|
nn (m_si h21 v1 7 ((m_i h21 v1 7) + (1 : Int32))) fun h23 =>
some h23
set_option maxHeartbeats 4000000 in
set_option maxRecDepth 100000 in
theorem ct_X10_readTunnel {G : GG} {l : Launch} {v0 : Nat} {v1 : Nat} {h : AH} {y : AH} (hf : f_X10_readTunnel G v0 v1 h = some y) : Ct G l yX10_readTunnel cX10_readTunnel 3 none 2 44 0 0 [.ref v0, .ref v1] h (none, y) := by
  refine ct_of (by decide) (Nat.le_of_ble_eq_true rfl) ?_
  intro p e s m args below meth c C hm hr hin
  have C : Cx G cX10_readTunnel RX10 p s m args meth c := C
  refine e_lv (lv2 := [(0, .ref v0), (1, .ref v1)]) [0, 1] rfl ?_
  unfold f_X10_readTunnel at hf
  refine e_aload_n (pc := 0) C dX10_readTunnel_0 0 rfl rfl ?_
  obtain ⟨t1, hf⟩ := ck_e hf
  refine e_getr (pc := 1) 10 0 C dX10_readTunnel_1 (by decide) (by decide) g227 rfl t1 ?_
  obtain ⟨b2, eb2, hf⟩ := ob_e hf
  refine e_rf eb2 ?_
  refine e_iconst (v := (0 : Int32)) (pc := 4) C dX10_readTunnel_4 (by decide) ?_
  refine e_sipush (v := (239 : Int32)) (pc := 5) C dX10_readTunnel_5 (by decide) ?_
  obtain ⟨t3, hf⟩ := ck_e hf
  obtain ⟨r6, h4, y5, hf⟩ := cb_e hf
  refine e_callVi (pc := 8) (st := []) 8 C (ct_X8_takeNumber y5) dX10_readTunnel_8 (by decide) t3 g735 g736 g737 g147 g738 hd_X8_takeNumber rfl ⟨Nat.le_of_ble_eq_true rfl, Nat.le_of_ble_eq_true rfl⟩ ⟨Nat.le_of_ble_eq_true rfl, Nat.le_of_ble_eq_true rfl⟩ rfl (Nat.le_of_ble_eq_true rfl) ?_
  refine e_istore_n (pc := 11) (lv2 := [(2, .int r6), (0, .ref v0), (1, .ref v1)]) C hm dX10_readTunnel_11 rfl (by decide) rfl ?_
  refine e_aload_n (pc := 12) C dX10_readTunnel_12 2 rfl rfl ?_
  obtain ⟨t7, hf⟩ := ck_e hf
  refine e_getrN (pc := 13) 9 8 C dX10_readTunnel_13 (by decide) (by decide) g348 rfl t7 ?_
  obtain ⟨b8, eb8, hf⟩ := ob_e hf
  refine e_rf eb8 ?_
  refine e_aload_n (pc := 16) C dX10_readTunnel_16 2 rfl rfl ?_
  refine e_getiN (pc := 17) 9 7 C dX10_readTunnel_17 (by decide) (by decide) g345 rfl t7 ?_
  refine e_iload_n (pc := 20) C dX10_readTunnel_20 0 rfl rfl ?_
  obtain ⟨q9, hf⟩ := ck_e hf
  obtain ⟨n10, tn10, in10⟩ := ix_e q9
  refine e_iast (pc := 21) C dX10_readTunnel_21 tn10 in10 ?_
  obtain ⟨h11, eh11, hf⟩ := nn_e hf
  refine e_hp eh11 ?_
  have uh11 : m_t h11 = m_t h4 := by rw [eh11]; exact rfl
  refine e_aload_n (pc := 22) C dX10_readTunnel_22 2 rfl rfl ?_
  refine e_getrN (pc := 23) 9 9 C dX10_readTunnel_23 (by decide) (by decide) g350 rfl (e_mt uh11 t7) ?_
  obtain ⟨b12, eb12, hf⟩ := ob_e hf
  refine e_rf eb12 ?_
  refine e_aload_n (pc := 26) C dX10_readTunnel_26 2 rfl rfl ?_
  refine e_getiN (pc := 27) 9 7 C dX10_readTunnel_27 (by decide) (by decide) g345 rfl (e_mt uh11 t7) ?_
  refine e_aload_n (pc := 30) C dX10_readTunnel_30 1 rfl rfl ?_
  obtain ⟨t13, hf⟩ := ck_e hf
  refine e_getr (pc := 31) 10 0 C dX10_readTunnel_31 (by decide) (by decide) g227 rfl t13 ?_
  obtain ⟨b14, eb14, hf⟩ := ob_e hf
  refine e_rf eb14 ?_
  refine e_iload_n (pc := 34) C dX10_readTunnel_34 0 rfl rfl ?_
  refine e_sipush (v := (239 : Int32)) (pc := 35) C dX10_readTunnel_35 (by decide) ?_
  obtain ⟨t15, hf⟩ := ck_e hf
  obtain ⟨r18, h16, y17, hf⟩ := cb_e hf
  refine e_callVi (pc := 38) (st := [.int (m_i h11 v1 7), .ref b12]) 8 C (ct_X8_takeNumber y17) dX10_readTunnel_38 (by decide) t15 g735 g736 g737 g147 g738 hd_X8_takeNumber rfl ⟨Nat.le_of_ble_eq_true rfl, Nat.le_of_ble_eq_true rfl⟩ ⟨Nat.le_of_ble_eq_true rfl, Nat.le_of_ble_eq_true rfl⟩ rfl (Nat.le_of_ble_eq_true rfl) ?_
  obtain ⟨q19, hf⟩ := ck_e hf
  obtain ⟨n20, tn20, in20⟩ := ix_e q19
  refine e_iast (pc := 41) C dX10_readTunnel_41 tn20 in20 ?_
  obtain ⟨h21, eh21, hf⟩ := nn_e hf
  refine e_hp eh21 ?_
  have uh21 : m_t h21 = m_t h16 := by rw [eh21]; exact rfl
  refine e_aload_n (pc := 42) C dX10_readTunnel_42 2 rfl rfl ?_
  refine e_dup (pc := 43) C dX10_readTunnel_43 rfl ?_
  obtain ⟨t22, hf⟩ := ck_e hf
  refine e_getiN (pc := 44) 9 7 C dX10_readTunnel_44 (by decide) (by decide) g345 rfl t22 ?_
  refine e_iconst (v := (1 : Int32)) (pc := 47) C dX10_readTunnel_47 (by decide) ?_
  refine e_iadd (pc := 48) C dX10_readTunnel_48 ?_
  refine e_putiN (pc := 49) 9 7 C dX10_readTunnel_49 (by decide) (by decide) g345 rfl rfl rfl rfl t22 ?_
  obtain ⟨h23, eh23, hf⟩ := nn_e hf
  refine e_hp eh23 ?_
  have uh23 : m_t h23 = m_t h16 := by rw [eh23]; exact uh21
  obtain rfl := so_e hf
  exact e_vret (pc := 52) C hr dX10_readTunnel_52 (Nat.le_of_ble_eq_true rfl) (Nat.le_of_ble_eq_true rfl)
theorem dX10_readCold_0 : decode cX10_readCold 0 = .ok (.aload_n 0, 1) := by decide +kernel
theorem dX10_readCold_1 : decode cX10_readCold 1 = .ok (.getfield 15, 3) := by decide +kernel
theorem dX10_readCold_4 : decode cX10_readCold 4 = .ok (.iconst 0, 1) := by decide +kernel
theorem dX10_readCold_5 : decode cX10_readCold 5 = .ok (.sipush 239, 3) := by decide +kernel
theorem dX10_readCold_8 : decode cX10_readCold 8 = .ok (.invokevirtual 89, 3) := by decide +kernel
theorem dX10_readCold_11 : decode cX10_readCold 11 = .ok (.istore_n 2, 1) := by decide +kernel
theorem dX10_readCold_12 : decode cX10_readCold 12 = .ok (.aload_n 1, 1) := by decide +kernel
theorem dX10_readCold_13 : decode cX10_readCold 13 = .ok (.getfield 141, 3) := by decide +kernel
theorem dX10_readCold_16 : decode cX10_readCold 16 = .ok (.aload_n 1, 1) := by decide +kernel
theorem dX10_readCold_17 : decode cX10_readCold 17 = .ok (.getfield 86, 3) := by decide +kernel
theorem dX10_readCold_20 : decode cX10_readCold 20 = .ok (.iload_n 2, 1) := by decide +kernel
theorem dX10_readCold_21 : decode cX10_readCold 21 = .ok (.iastore, 1) := by decide +kernel
theorem dX10_readCold_22 : decode cX10_readCold 22 = .ok (.aload_n 1, 1) := by decide +kernel
theorem dX10_readCold_23 : decode cX10_readCold 23 = .ok (.getfield 144, 3) := by decide +kernel
theorem dX10_readCold_26 : decode cX10_readCold 26 = .ok (.aload_n 1, 1) := by decide +kernel
theorem dX10_readCold_27 : decode cX10_readCold 27 = .ok (.getfield 86, 3) := by decide +kernel
theorem dX10_readCold_30 : decode cX10_readCold 30 = .ok (.aload_n 0, 1) := by decide +kernel
theorem dX10_readCold_31 : decode cX10_readCold 31 = .ok (.getfield 15, 3) := by decide +kernel
theorem dX10_readCold_34 : decode cX10_readCold 34 = .ok (.iload_n 2, 1) := by decide +kernel
theorem dX10_readCold_35 : decode cX10_readCold 35 = .ok (.sipush 239, 3) := by decide +kernel
theorem dX10_readCold_38 : decode cX10_readCold 38 = .ok (.invokevirtual 89, 3) := by decide +kernel
theorem dX10_readCold_41 : decode cX10_readCold 41 = .ok (.iastore, 1) := by decide +kernel
theorem dX10_readCold_42 : decode cX10_readCold 42 = .ok (.aload_n 1, 1) := by decide +kernel
theorem dX10_readCold_43 : decode cX10_readCold 43 = .ok (.getfield 147, 3) := by decide +kernel
theorem dX10_readCold_46 : decode cX10_readCold 46 = .ok (.aload_n 1, 1) := by decide +kernel
theorem dX10_readCold_47 : decode cX10_readCold 47 = .ok (.getfield 86, 3) := by decide +kernel
theorem dX10_readCold_50 : decode cX10_readCold 50 = .ok (.aload_n 0, 1) := by decide +kernel
theorem dX10_readCold_51 : decode cX10_readCold 51 = .ok (.getfield 15, 3) := by decide +kernel
theorem dX10_readCold_54 : decode cX10_readCold 54 = .ok (.iconst 1, 1) := by decide +kernel
theorem dX10_readCold_55 : decode cX10_readCold 55 = .ok (.iconst 4, 1) := by decide +kernel
theorem dX10_readCold_56 : decode cX10_readCold 56 = .ok (.invokevirtual 89, 3) := by decide +kernel
theorem dX10_readCold_59 : decode cX10_readCold 59 = .ok (.iastore, 1) := by decide +kernel
theorem dX10_readCold_60 : decode cX10_readCold 60 = .ok (.aload_n 1, 1) := by decide +kernel
theorem dX10_readCold_61 : decode cX10_readCold 61 = .ok (.dup, 1) := by decide +kernel
theorem dX10_readCold_62 : decode cX10_readCold 62 = .ok (.getfield 86, 3) := by decide +kernel
theorem dX10_readCold_65 : decode cX10_readCold 65 = .ok (.iconst 1, 1) := by decide +kernel
theorem dX10_readCold_66 : decode cX10_readCold 66 = .ok (.iadd, 1) := by decide +kernel
theorem dX10_readCold_67 : decode cX10_readCold 67 = .ok (.putfield 86, 3) := by decide +kernel
theorem dX10_readCold_70 : decode cX10_readCold 70 = .ok (.return_, 1) := by decide +kernel
def f_X10_readCold (G : GG) (v0 : Nat) (v1 : Nat) (h : AH) : Option (AH) :=
ck (m_t h v0 = .inl 10) <|
ob (m_r h v0 0) fun b2 =>
ck (m_t h b2 = .inl 8) <|
cb (f_X8_takeNumber G b2 (0 : Int32) (239 : Int32) h) fun r6 h4 =>
ck (m_t h4 v1 = .inl 9) <|
ob (m_r h4 v1 11) fun b8 =>
ck (ixb h4 b8 .int (m_i h4 v1 10) = true) <|
nn (m_si h4 b8 (m_i h4 v1 10).toNatClampNeg r6) fun h11 =>
ob (m_r h11 v1 12) fun b12 =>
ck (m_t h11 v0 = .inl 10) <|
ob (m_r h11 v0 0) fun b14 =>
ck (m_t h11 b14 = .inl 8) <|
cb (f_X8_takeNumber G b14 r6 (239 : Int32) h11) fun r18 h16 =>
ck (ixb h16 b12 .int (m_i h11 v1 10) = true) <|
nn (m_si h16 b12 (m_i h11 v1 10).toNatClampNeg r18) fun h21 =>
ck (m_t h21 v1 = .inl 9) <|
ob (m_r h21 v1 13) fun b23 =>
ck (m_t h21 v0 = .inl 10) <|
ob (m_r h21 v0 0) fun b25 =>
ck (m_t h21 b25 = .inl 8) <|
cb (f_X8_takeNumber G b25 (1 : Int32) (4 : Int32) h21) fun r29 h27 =>
ck (ixb h27 b23 .int (m_i h21 v1 10) = true) <|
nn (m_si h27 b23 (m_i h21 v1 10).toNatClampNeg r29) fun h32 =>
ck (m_t h32 v1 = .inl 9) <|
nn (m_si h32 v1 10 ((m_i h32 v1 10) + (1 : Int32))) fun h34 =>
some h34
set_option maxHeartbeats 4000000 in
set_option maxRecDepth 100000 in
theorem ct_X10_readCold {G : GG} {l : Launch} {v0 : Nat} {v1 : Nat} {h : AH} {y : AH} (hf : f_X10_readCold G v0 v1 h = some y) : Ct G l yX10_readCold cX10_readCold 3 none 2 44 0 0 [.ref v0, .ref v1] h (none, y) := by
  refine ct_of (by decide) (Nat.le_of_ble_eq_true rfl) ?_
  intro p e s m args below meth c C hm hr hin
  have C : Cx G cX10_readCold RX10 p s m args meth c := C
  refine e_lv (lv2 := [(0, .ref v0), (1, .ref v1)]) [0, 1] rfl ?_
  unfold f_X10_readCold at hf
  refine e_aload_n (pc := 0) C dX10_readCold_0 0 rfl rfl ?_
  obtain ⟨t1, hf⟩ := ck_e hf
  refine e_getr (pc := 1) 10 0 C dX10_readCold_1 (by decide) (by decide) g227 rfl t1 ?_
  obtain ⟨b2, eb2, hf⟩ := ob_e hf
  refine e_rf eb2 ?_
  refine e_iconst (v := (0 : Int32)) (pc := 4) C dX10_readCold_4 (by decide) ?_
  refine e_sipush (v := (239 : Int32)) (pc := 5) C dX10_readCold_5 (by decide) ?_
  obtain ⟨t3, hf⟩ := ck_e hf
  obtain ⟨r6, h4, y5, hf⟩ := cb_e hf
  refine e_callVi (pc := 8) (st := []) 8 C (ct_X8_takeNumber y5) dX10_readCold_8 (by decide) t3 g735 g736 g737 g147 g738 hd_X8_takeNumber rfl ⟨Nat.le_of_ble_eq_true rfl, Nat.le_of_ble_eq_true rfl⟩ ⟨Nat.le_of_ble_eq_true rfl, Nat.le_of_ble_eq_true rfl⟩ rfl (Nat.le_of_ble_eq_true rfl) ?_
  refine e_istore_n (pc := 11) (lv2 := [(2, .int r6), (0, .ref v0), (1, .ref v1)]) C hm dX10_readCold_11 rfl (by decide) rfl ?_
  refine e_aload_n (pc := 12) C dX10_readCold_12 2 rfl rfl ?_
  obtain ⟨t7, hf⟩ := ck_e hf
  refine e_getrN (pc := 13) 9 11 C dX10_readCold_13 (by decide) (by decide) g355 rfl t7 ?_
  obtain ⟨b8, eb8, hf⟩ := ob_e hf
  refine e_rf eb8 ?_
  refine e_aload_n (pc := 16) C dX10_readCold_16 2 rfl rfl ?_
  refine e_getiN (pc := 17) 9 10 C dX10_readCold_17 (by decide) (by decide) g352 rfl t7 ?_
  refine e_iload_n (pc := 20) C dX10_readCold_20 0 rfl rfl ?_
  obtain ⟨q9, hf⟩ := ck_e hf
  obtain ⟨n10, tn10, in10⟩ := ix_e q9
  refine e_iast (pc := 21) C dX10_readCold_21 tn10 in10 ?_
  obtain ⟨h11, eh11, hf⟩ := nn_e hf
  refine e_hp eh11 ?_
  have uh11 : m_t h11 = m_t h4 := by rw [eh11]; exact rfl
  refine e_aload_n (pc := 22) C dX10_readCold_22 2 rfl rfl ?_
  refine e_getrN (pc := 23) 9 12 C dX10_readCold_23 (by decide) (by decide) g357 rfl (e_mt uh11 t7) ?_
  obtain ⟨b12, eb12, hf⟩ := ob_e hf
  refine e_rf eb12 ?_
  refine e_aload_n (pc := 26) C dX10_readCold_26 2 rfl rfl ?_
  refine e_getiN (pc := 27) 9 10 C dX10_readCold_27 (by decide) (by decide) g352 rfl (e_mt uh11 t7) ?_
  refine e_aload_n (pc := 30) C dX10_readCold_30 1 rfl rfl ?_
  obtain ⟨t13, hf⟩ := ck_e hf
  refine e_getr (pc := 31) 10 0 C dX10_readCold_31 (by decide) (by decide) g227 rfl t13 ?_
  obtain ⟨b14, eb14, hf⟩ := ob_e hf
  refine e_rf eb14 ?_
  refine e_iload_n (pc := 34) C dX10_readCold_34 0 rfl rfl ?_
  refine e_sipush (v := (239 : Int32)) (pc := 35) C dX10_readCold_35 (by decide) ?_
  obtain ⟨t15, hf⟩ := ck_e hf
  obtain ⟨r18, h16, y17, hf⟩ := cb_e hf
  refine e_callVi (pc := 38) (st := [.int (m_i h11 v1 10), .ref b12]) 8 C (ct_X8_takeNumber y17) dX10_readCold_38 (by decide) t15 g735 g736 g737 g147 g738 hd_X8_takeNumber rfl ⟨Nat.le_of_ble_eq_true rfl, Nat.le_of_ble_eq_true rfl⟩ ⟨Nat.le_of_ble_eq_true rfl, Nat.le_of_ble_eq_true rfl⟩ rfl (Nat.le_of_ble_eq_true rfl) ?_
  obtain ⟨q19, hf⟩ := ck_e hf
  obtain ⟨n20, tn20, in20⟩ := ix_e q19
  refine e_iast (pc := 41) C dX10_readCold_41 tn20 in20 ?_
  obtain ⟨h21, eh21, hf⟩ := nn_e hf
  refine e_hp eh21 ?_
  have uh21 : m_t h21 = m_t h16 := by rw [eh21]; exact rfl
  refine e_aload_n (pc := 42) C dX10_readCold_42 2 rfl rfl ?_
  obtain ⟨t22, hf⟩ := ck_e hf
  refine e_getrN (pc := 43) 9 13 C dX10_readCold_43 (by decide) (by decide) g359 rfl t22 ?_
  obtain ⟨b23, eb23, hf⟩ := ob_e hf
  refine e_rf eb23 ?_
  refine e_aload_n (pc := 46) C dX10_readCold_46 2 rfl rfl ?_
  refine e_getiN (pc := 47) 9 10 C dX10_readCold_47 (by decide) (by decide) g352 rfl t22 ?_
  refine e_aload_n (pc := 50) C dX10_readCold_50 1 rfl rfl ?_
  obtain ⟨t24, hf⟩ := ck_e hf
  refine e_getr (pc := 51) 10 0 C dX10_readCold_51 (by decide) (by decide) g227 rfl t24 ?_
  obtain ⟨b25, eb25, hf⟩ := ob_e hf
  refine e_rf eb25 ?_
  refine e_iconst (v := (1 : Int32)) (pc := 54) C dX10_readCold_54 (by decide) ?_
  refine e_iconst (v := (4 : Int32)) (pc := 55) C dX10_readCold_55 (by decide) ?_
  obtain ⟨t26, hf⟩ := ck_e hf
  obtain ⟨r29, h27, y28, hf⟩ := cb_e hf
  refine e_callVi (pc := 56) (st := [.int (m_i h21 v1 10), .ref b23]) 8 C (ct_X8_takeNumber y28) dX10_readCold_56 (by decide) t26 g735 g736 g737 g147 g738 hd_X8_takeNumber rfl ⟨Nat.le_of_ble_eq_true rfl, Nat.le_of_ble_eq_true rfl⟩ ⟨Nat.le_of_ble_eq_true rfl, Nat.le_of_ble_eq_true rfl⟩ rfl (Nat.le_of_ble_eq_true rfl) ?_
  obtain ⟨q30, hf⟩ := ck_e hf
  obtain ⟨n31, tn31, in31⟩ := ix_e q30
  refine e_iast (pc := 59) C dX10_readCold_59 tn31 in31 ?_
  obtain ⟨h32, eh32, hf⟩ := nn_e hf
  refine e_hp eh32 ?_
  have uh32 : m_t h32 = m_t h27 := by rw [eh32]; exact rfl
  refine e_aload_n (pc := 60) C dX10_readCold_60 2 rfl rfl ?_
  refine e_dup (pc := 61) C dX10_readCold_61 rfl ?_
  obtain ⟨t33, hf⟩ := ck_e hf
  refine e_getiN (pc := 62) 9 10 C dX10_readCold_62 (by decide) (by decide) g352 rfl t33 ?_
  refine e_iconst (v := (1 : Int32)) (pc := 65) C dX10_readCold_65 (by decide) ?_
  refine e_iadd (pc := 66) C dX10_readCold_66 ?_
  refine e_putiN (pc := 67) 9 10 C dX10_readCold_67 (by decide) (by decide) g352 rfl rfl rfl rfl t33 ?_
  obtain ⟨h34, eh34, hf⟩ := nn_e hf
  refine e_hp eh34 ?_
  have uh34 : m_t h34 = m_t h27 := by rw [eh34]; exact uh32
  obtain rfl := so_e hf
  exact e_vret (pc := 70) C hr dX10_readCold_70 (Nat.le_of_ble_eq_true rfl) (Nat.le_of_ble_eq_true rfl)
