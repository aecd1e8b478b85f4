/-! Functions and walks, by a program of ours: J6_bitCount_0f7a4 J7_fill_53178 X5_init X8_init X9_init X9_hasPerson X9_isTunnel X9_milesToTunnel X9_coldAt X10_init X10_isOutOfPlace X10_readStart X10_readHole X10_readPerson X10_readFront X10_readSays X10_readTunnel X10_readCold X10_readClause X10_readTrain X3_init X0_init X6_init X7_init X4_init X1_init X11_init X11_feed -/
theorem dJ6_bitCount_0f7a4_0 : decode cJ6_bitCount_0f7a4 0 = .ok (.iload_n 0, 1) := by decide +kernel
theorem dJ6_bitCount_0f7a4_1 : decode cJ6_bitCount_0f7a4 1 = .ok (.iload_n 0, 1) := by decide +kernel
theorem dJ6_bitCount_0f7a4_2 : decode cJ6_bitCount_0f7a4 2 = .ok (.iconst 1, 1) := by decide +kernel
theorem dJ6_bitCount_0f7a4_3 : decode cJ6_bitCount_0f7a4 3 = .ok (.iushr, 1) := by decide +kernel
theorem dJ6_bitCount_0f7a4_4 : decode cJ6_bitCount_0f7a4 4 = .ok (.ldc_w 265, 3) := by decide +kernel
theorem dJ6_bitCount_0f7a4_7 : decode cJ6_bitCount_0f7a4 7 = .ok (.iand, 1) := by decide +kernel
theorem dJ6_bitCount_0f7a4_8 : decode cJ6_bitCount_0f7a4 8 = .ok (.isub, 1) := by decide +kernel
theorem dJ6_bitCount_0f7a4_9 : decode cJ6_bitCount_0f7a4 9 = .ok (.istore_n 0, 1) := by decide +kernel
theorem dJ6_bitCount_0f7a4_10 : decode cJ6_bitCount_0f7a4 10 = .ok (.iload_n 0, 1) := by decide +kernel
theorem dJ6_bitCount_0f7a4_11 : decode cJ6_bitCount_0f7a4 11 = .ok (.ldc_w 266, 3) := by decide +kernel
theorem dJ6_bitCount_0f7a4_14 : decode cJ6_bitCount_0f7a4 14 = .ok (.iand, 1) := by decide +kernel
theorem dJ6_bitCount_0f7a4_15 : decode cJ6_bitCount_0f7a4 15 = .ok (.iload_n 0, 1) := by decide +kernel
theorem dJ6_bitCount_0f7a4_16 : decode cJ6_bitCount_0f7a4 16 = .ok (.iconst 2, 1) := by decide +kernel
theorem dJ6_bitCount_0f7a4_17 : decode cJ6_bitCount_0f7a4 17 = .ok (.iushr, 1) := by decide +kernel
theorem dJ6_bitCount_0f7a4_18 : decode cJ6_bitCount_0f7a4 18 = .ok (.ldc_w 266, 3) := by decide +kernel
theorem dJ6_bitCount_0f7a4_21 : decode cJ6_bitCount_0f7a4 21 = .ok (.iand, 1) := by decide +kernel
theorem dJ6_bitCount_0f7a4_22 : decode cJ6_bitCount_0f7a4 22 = .ok (.iadd, 1) := by decide +kernel
theorem dJ6_bitCount_0f7a4_23 : decode cJ6_bitCount_0f7a4 23 = .ok (.istore_n 0, 1) := by decide +kernel
theorem dJ6_bitCount_0f7a4_24 : decode cJ6_bitCount_0f7a4 24 = .ok (.iload_n 0, 1) := by decide +kernel
theorem dJ6_bitCount_0f7a4_25 : decode cJ6_bitCount_0f7a4 25 = .ok (.iload_n 0, 1) := by decide +kernel
theorem dJ6_bitCount_0f7a4_26 : decode cJ6_bitCount_0f7a4 26 = .ok (.iconst 4, 1) := by decide +kernel
theorem dJ6_bitCount_0f7a4_27 : decode cJ6_bitCount_0f7a4 27 = .ok (.iushr, 1) := by decide +kernel
theorem dJ6_bitCount_0f7a4_28 : decode cJ6_bitCount_0f7a4 28 = .ok (.iadd, 1) := by decide +kernel
theorem dJ6_bitCount_0f7a4_29 : decode cJ6_bitCount_0f7a4 29 = .ok (.ldc_w 267, 3) := by decide +kernel
theorem dJ6_bitCount_0f7a4_32 : decode cJ6_bitCount_0f7a4 32 = .ok (.iand, 1) := by decide +kernel
theorem dJ6_bitCount_0f7a4_33 : decode cJ6_bitCount_0f7a4 33 = .ok (.istore_n 0, 1) := by decide +kernel
theorem dJ6_bitCount_0f7a4_34 : decode cJ6_bitCount_0f7a4 34 = .ok (.iload_n 0, 1) := by decide +kernel
theorem dJ6_bitCount_0f7a4_35 : decode cJ6_bitCount_0f7a4 35 = .ok (.iload_n 0, 1) := by decide +kernel
theorem dJ6_bitCount_0f7a4_36 : decode cJ6_bitCount_0f7a4 36 = .ok (.bipush 8, 2) := by decide +kernel
theorem dJ6_bitCount_0f7a4_38 : decode cJ6_bitCount_0f7a4 38 = .ok (.iushr, 1) := by decide +kernel
theorem dJ6_bitCount_0f7a4_39 : decode cJ6_bitCount_0f7a4 39 = .ok (.iadd, 1) := by decide +kernel
theorem dJ6_bitCount_0f7a4_40 : decode cJ6_bitCount_0f7a4 40 = .ok (.istore_n 0, 1) := by decide +kernel
theorem dJ6_bitCount_0f7a4_41 : decode cJ6_bitCount_0f7a4 41 = .ok (.iload_n 0, 1) := by decide +kernel
theorem dJ6_bitCount_0f7a4_42 : decode cJ6_bitCount_0f7a4 42 = .ok (.iload_n 0, 1) := by decide +kernel
theorem dJ6_bitCount_0f7a4_43 : decode cJ6_bitCount_0f7a4 43 = .ok (.bipush 16, 2) := by decide +kernel
theorem dJ6_bitCount_0f7a4_45 : decode cJ6_bitCount_0f7a4 45 = .ok (.iushr, 1) := by decide +kernel
theorem dJ6_bitCount_0f7a4_46 : decode cJ6_bitCount_0f7a4 46 = .ok (.iadd, 1) := by decide +kernel
theorem dJ6_bitCount_0f7a4_47 : decode cJ6_bitCount_0f7a4 47 = .ok (.istore_n 0, 1) := by decide +kernel
theorem dJ6_bitCount_0f7a4_48 : decode cJ6_bitCount_0f7a4 48 = .ok (.iload_n 0, 1) := by decide +kernel
theorem dJ6_bitCount_0f7a4_49 : decode cJ6_bitCount_0f7a4 49 = .ok (.bipush 63, 2) := by decide +kernel
theorem dJ6_bitCount_0f7a4_51 : decode cJ6_bitCount_0f7a4 51 = .ok (.iand, 1) := by decide +kernel
theorem dJ6_bitCount_0f7a4_52 : decode cJ6_bitCount_0f7a4 52 = .ok (.ireturn, 1) := by decide +kernel
noncomputable def f_J6_bitCount_0f7a4 (G : GG) (v0 : Int32) (h : AH) : Option (Int32 × AH) :=
nn (v0 - (((v0.toUInt32 >>> ((1 : Int32).toUInt32 &&& Int32.toUInt32 31)).toInt32) &&& (1431655765 : Int32))) fun x1 =>
nn ((x1 &&& (858993459 : Int32)) + (((x1.toUInt32 >>> ((2 : Int32).toUInt32 &&& Int32.toUInt32 31)).toInt32) &&& (858993459 : Int32))) fun x2 =>
nn ((x2 + ((x2.toUInt32 >>> ((4 : Int32).toUInt32 &&& Int32.toUInt32 31)).toInt32)) &&& (252645135 : Int32)) fun x3 =>
nn (x3 + ((x3.toUInt32 >>> ((8 : Int32).toUInt32 &&& Int32.toUInt32 31)).toInt32)) fun x4 =>
nn (x4 + ((x4.toUInt32 >>> ((16 : Int32).toUInt32 &&& Int32.toUInt32 31)).toInt32)) fun x5 =>
some (x5 &&& (63 : Int32), h)
set_option maxHeartbeats 4000000 in
set_option maxRecDepth 100000 in
theorem ct_J6_bitCount_0f7a4 {G : GG} {l : Launch} {v0 : Int32} {h : AH} {y : Int32 × AH} (hf : f_J6_bitCount_0f7a4 G v0 h = some y) : Ct G l yJ6_bitCount_0f7a4 cJ6_bitCount_0f7a4 1 (some .int) 0 0 0 0 [.int v0] h (some (.int y.1), y.2) := by
  refine ct_of (by decide) (Nat.le_of_ble_eq_true rfl) ?_
  intro p e s m args below meth c C hm hr hin
  have C : Cx G cJ6_bitCount_0f7a4 RJ6 p s m args meth c := C
  refine e_lv (lv2 := [(0, .int v0)]) [0] rfl ?_
  unfold f_J6_bitCount_0f7a4 at hf
  refine e_iload_n (pc := 0) C dJ6_bitCount_0f7a4_0 0 rfl rfl ?_
  refine e_iload_n (pc := 1) C dJ6_bitCount_0f7a4_1 0 rfl rfl ?_
  refine e_iconst (v := (1 : Int32)) (pc := 2) C dJ6_bitCount_0f7a4_2 (by decide) ?_
  refine e_iushr (pc := 3) C dJ6_bitCount_0f7a4_3 ?_
  refine e_ldcw (pc := 4) C dJ6_bitCount_0f7a4_4 g1164 ?_
  refine e_iand (pc := 7) C dJ6_bitCount_0f7a4_7 ?_
  refine e_isub (pc := 8) C dJ6_bitCount_0f7a4_8 ?_
  obtain ⟨x1, ex1, hf⟩ := nn_e hf
  refine e_topi ex1 ?_
  refine e_istore_n (pc := 9) (lv2 := [(0, .int x1)]) C hm dJ6_bitCount_0f7a4_9 rfl (by decide) rfl ?_
  refine e_iload_n (pc := 10) C dJ6_bitCount_0f7a4_10 0 rfl rfl ?_
  refine e_ldcw (pc := 11) C dJ6_bitCount_0f7a4_11 g1165 ?_
  refine e_iand (pc := 14) C dJ6_bitCount_0f7a4_14 ?_
  refine e_iload_n (pc := 15) C dJ6_bitCount_0f7a4_15 0 rfl rfl ?_
  refine e_iconst (v := (2 : Int32)) (pc := 16) C dJ6_bitCount_0f7a4_16 (by decide) ?_
  refine e_iushr (pc := 17) C dJ6_bitCount_0f7a4_17 ?_
  refine e_ldcw (pc := 18) C dJ6_bitCount_0f7a4_18 g1165 ?_
  refine e_iand (pc := 21) C dJ6_bitCount_0f7a4_21 ?_
  refine e_iadd (pc := 22) C dJ6_bitCount_0f7a4_22 ?_
  obtain ⟨x2, ex2, hf⟩ := nn_e hf
  refine e_topi ex2 ?_
  refine e_istore_n (pc := 23) (lv2 := [(0, .int x2)]) C hm dJ6_bitCount_0f7a4_23 rfl (by decide) rfl ?_
  refine e_iload_n (pc := 24) C dJ6_bitCount_0f7a4_24 0 rfl rfl ?_
  refine e_iload_n (pc := 25) C dJ6_bitCount_0f7a4_25 0 rfl rfl ?_
  refine e_iconst (v := (4 : Int32)) (pc := 26) C dJ6_bitCount_0f7a4_26 (by decide) ?_
  refine e_iushr (pc := 27) C dJ6_bitCount_0f7a4_27 ?_
  refine e_iadd (pc := 28) C dJ6_bitCount_0f7a4_28 ?_
  refine e_ldcw (pc := 29) C dJ6_bitCount_0f7a4_29 g1166 ?_
  refine e_iand (pc := 32) C dJ6_bitCount_0f7a4_32 ?_
  obtain ⟨x3, ex3, hf⟩ := nn_e hf
  refine e_topi ex3 ?_
  refine e_istore_n (pc := 33) (lv2 := [(0, .int x3)]) C hm dJ6_bitCount_0f7a4_33 rfl (by decide) rfl ?_
  refine e_iload_n (pc := 34) C dJ6_bitCount_0f7a4_34 0 rfl rfl ?_
  refine e_iload_n (pc := 35) C dJ6_bitCount_0f7a4_35 0 rfl rfl ?_
  refine e_bipush (v := (8 : Int32)) (pc := 36) C dJ6_bitCount_0f7a4_36 (by decide) ?_
  refine e_iushr (pc := 38) C dJ6_bitCount_0f7a4_38 ?_
  refine e_iadd (pc := 39) C dJ6_bitCount_0f7a4_39 ?_
  obtain ⟨x4, ex4, hf⟩ := nn_e hf
  refine e_topi ex4 ?_
  refine e_istore_n (pc := 40) (lv2 := [(0, .int x4)]) C hm dJ6_bitCount_0f7a4_40 rfl (by decide) rfl ?_
  refine e_iload_n (pc := 41) C dJ6_bitCount_0f7a4_41 0 rfl rfl ?_
  refine e_iload_n (pc := 42) C dJ6_bitCount_0f7a4_42 0 rfl rfl ?_
  refine e_bipush (v := (16 : Int32)) (pc := 43) C dJ6_bitCount_0f7a4_43 (by decide) ?_
  refine e_iushr (pc := 45) C dJ6_bitCount_0f7a4_45 ?_
  refine e_iadd (pc := 46) C dJ6_bitCount_0f7a4_46 ?_
  obtain ⟨x5, ex5, hf⟩ := nn_e hf
  refine e_topi ex5 ?_
  refine e_istore_n (pc := 47) (lv2 := [(0, .int x5)]) C hm dJ6_bitCount_0f7a4_47 rfl (by decide) rfl ?_
  refine e_iload_n (pc := 48) C dJ6_bitCount_0f7a4_48 0 rfl rfl ?_
  refine e_bipush (v := (63 : Int32)) (pc := 49) C dJ6_bitCount_0f7a4_49 (by decide) ?_
  refine e_iand (pc := 51) C dJ6_bitCount_0f7a4_51 ?_
  obtain rfl := so_e hf
  exact e_iret (pc := 52) C hr dJ6_bitCount_0f7a4_52 (Nat.le_of_ble_eq_true rfl) (Nat.le_of_ble_eq_true rfl)
theorem dJ7_fill_53178_0 : decode cJ7_fill_53178 0 = .ok (.iconst 0, 1) := by decide +kernel
theorem dJ7_fill_53178_1 : decode cJ7_fill_53178 1 = .ok (.istore_n 2, 1) := by decide +kernel
theorem dJ7_fill_53178_2 : decode cJ7_fill_53178 2 = .ok (.aload_n 0, 1) := by decide +kernel
theorem dJ7_fill_53178_3 : decode cJ7_fill_53178 3 = .ok (.arraylength, 1) := by decide +kernel
theorem dJ7_fill_53178_4 : decode cJ7_fill_53178 4 = .ok (.istore_n 3, 1) := by decide +kernel
theorem dJ7_fill_53178_5 : decode cJ7_fill_53178 5 = .ok (.iload_n 2, 1) := by decide +kernel
theorem dJ7_fill_53178_6 : decode cJ7_fill_53178 6 = .ok (.iload_n 3, 1) := by decide +kernel
theorem dJ7_fill_53178_7 : decode cJ7_fill_53178 7 = .ok (.if_icmp .ge 13, 3) := by decide +kernel
theorem dJ7_fill_53178_10 : decode cJ7_fill_53178 10 = .ok (.aload_n 0, 1) := by decide +kernel
theorem dJ7_fill_53178_11 : decode cJ7_fill_53178 11 = .ok (.iload_n 2, 1) := by decide +kernel
theorem dJ7_fill_53178_12 : decode cJ7_fill_53178 12 = .ok (.iload_n 1, 1) := by decide +kernel
theorem dJ7_fill_53178_13 : decode cJ7_fill_53178 13 = .ok (.iastore, 1) := by decide +kernel
theorem dJ7_fill_53178_14 : decode cJ7_fill_53178 14 = .ok (.iinc 2 1, 3) := by decide +kernel
theorem dJ7_fill_53178_17 : decode cJ7_fill_53178 17 = .ok (.goto (-12), 3) := by decide +kernel
theorem dJ7_fill_53178_20 : decode cJ7_fill_53178 20 = .ok (.return_, 1) := by decide +kernel
noncomputable def F_J7_fill_53178_5 (G : GG) (v0 : Nat) (v1 : Int32) (v3 : Int32) (self_5 : Int32 → AH → Option (AH)) (v2 : Int32) (h : AH) : Option (AH) :=
if v3 ≤ v2 then (some h) else
ck (ixb h v0 .int v2 = true) <|
nn (m_si h v0 v2.toNatClampNeg v1) fun h6 =>
nn (v2 + (1 : Int32)) fun x7 =>
self_5 x7 h6
noncomputable def f_J7_fill_53178 (G : GG) (v0 : Nat) (v1 : Int32) (h : AH) : Option (AH) :=
ob (alb h v0 .int) fun n1 =>
nn (nI n1) fun x2 =>
lq1 (F_J7_fill_53178_5 G v0 v1 x2 ) bN (0 : Int32) h
set_option maxHeartbeats 4000000 in
set_option maxRecDepth 100000 in
theorem el_J7_fill_53178_5 {G : GG} {p : Program} {l : Launch} {e : Env} {s : State} {m : MethodId} {args : Array Value} {below : List Frame} {meth : Method} {c : Code} {y : AH} (C : Cx G cJ7_fill_53178 RJ7 p s m args meth c) (hm : c.maxLocals = 4) (hr : meth.sig.returnType = none) (hin : meth.name = yJ7_fill_53178.name) {v0 : Nat} {v1 : Int32} {v3 : Int32}  :
    ∀ (n : Nat) (v2 : Int32) (h : AH), lq1 (F_J7_fill_53178_5 G v0 v1 v3) n v2 h = some y → EE G p l e ({ frames := 0, cells := 0, slots := 0, locals := 0 } : Room) s m args below meth c (none, y) 0 0 5 [(0, .ref v0), (1, .int v1), (2, .int v2), (3, .int v3)] [] h 0 0 := by
  intro n
  induction n with
  | zero => intro v2 h hf; exact (no_e hf).elim
  | succ n ih_5 =>
    intro v2 h hf
    have hf : F_J7_fill_53178_5 G v0 v1 v3 (lq1 (F_J7_fill_53178_5 G v0 v1 v3) n) v2 h = some y := hf
    generalize lq1 (F_J7_fill_53178_5 G v0 v1 v3) n = self_5 at hf ih_5
    unfold F_J7_fill_53178_5 at hf
    refine e_iload_n (pc := 5) C dJ7_fill_53178_5 2 rfl rfl ?_
    refine e_iload_n (pc := 6) C dJ7_fill_53178_6 3 rfl rfl ?_
    rcases it_e hf with ⟨c3, hf⟩ | ⟨c3, hf⟩
    · refine e_icmp_ge (pc := 7) (tgt := 20) C dJ7_fill_53178_7 (by decide) (fun _ => ?_) (fun q => absurd c3 q)
      obtain rfl := so_e hf
      exact e_vret (pc := 20) C hr dJ7_fill_53178_20 (Nat.le_of_ble_eq_true rfl) (Nat.le_of_ble_eq_true rfl)
    · refine e_icmp_ge (pc := 7) (tgt := 20) C dJ7_fill_53178_7 (by decide) (fun q => absurd q c3) (fun _ => ?_)
      refine e_aload_n (pc := 10) C dJ7_fill_53178_10 0 rfl rfl ?_
      refine e_iload_n (pc := 11) C dJ7_fill_53178_11 2 rfl rfl ?_
      refine e_iload_n (pc := 12) C dJ7_fill_53178_12 1 rfl rfl ?_
      obtain ⟨q4, hf⟩ := ck_e hf
      obtain ⟨n5, tn5, in5⟩ := ix_e q4
      refine e_iast (pc := 13) C dJ7_fill_53178_13 tn5 in5 ?_
      obtain ⟨h6, eh6, hf⟩ := nn_e hf
      refine e_hp eh6 ?_
      have uh6 : m_t h6 = m_t h := by rw [eh6]; exact rfl
      obtain ⟨x7, ex7, hf⟩ := nn_e hf
      refine e_iinc (pc := 14) (v := x7) (lv2 := [(2, .int x7), (0, .ref v0), (1, .int v1), (3, .int v3)]) C hm dJ7_fill_53178_14 2 rfl (by rw [ex7]; rfl) (by decide) rfl ?_
      refine e_goto (pc := 17) (tgt := 5) C dJ7_fill_53178_17 (by decide) ?_
      refine e_lv (lv2 := [(0, .ref v0), (1, .int v1), (2, .int x7), (3, .int v3)]) [1, 2, 0, 3] rfl ?_
      exact ih_5 x7 h6 hf
set_option maxHeartbeats 4000000 in
set_option maxRecDepth 100000 in
theorem ct_J7_fill_53178 {G : GG} {l : Launch} {v0 : Nat} {v1 : Int32} {h : AH} {y : AH} (hf : f_J7_fill_53178 G v0 v1 h = some y) : Ct G l yJ7_fill_53178 cJ7_fill_53178 4 none 0 0 0 0 [.ref v0, .int v1] h (none, y) := by
  refine ct_of (by decide) (Nat.le_of_ble_eq_true rfl) ?_
  intro p e s m args below meth c C hm hr hin
  have C : Cx G cJ7_fill_53178 RJ7 p s m args meth c := C
  refine e_lv (lv2 := [(0, .ref v0), (1, .int v1)]) [0, 1] rfl ?_
  unfold f_J7_fill_53178 at hf
  refine e_iconst (v := (0 : Int32)) (pc := 0) C dJ7_fill_53178_0 (by decide) ?_
  refine e_istore_n (pc := 1) (lv2 := [(2, .int (0 : Int32)), (0, .ref v0), (1, .int v1)]) C hm dJ7_fill_53178_1 rfl (by decide) rfl ?_
  refine e_aload_n (pc := 2) C dJ7_fill_53178_2 1 rfl rfl ?_
  obtain ⟨n1, en1, hf⟩ := ob_e hf
  refine e_alen (pc := 3) 0 rfl C dJ7_fill_53178_3 (al_e en1) ?_
  obtain ⟨x2, ex2, hf⟩ := nn_e hf
  refine e_topi ex2 ?_
  refine e_istore_n (pc := 4) (lv2 := [(3, .int x2), (2, .int (0 : Int32)), (0, .ref v0), (1, .int v1)]) C hm dJ7_fill_53178_4 rfl (by decide) rfl ?_
  refine e_lv (lv2 := [(0, .ref v0), (1, .int v1), (2, .int (0 : Int32)), (3, .int x2)]) [2, 3, 1, 0] rfl ?_
  exact el_J7_fill_53178_5 C hm hr hin bN (0 : Int32) h hf
theorem dX5_init_0 : decode cX5_init 0 = .ok (.aload_n 0, 1) := by decide +kernel
theorem dX5_init_1 : decode cX5_init 1 = .ok (.invokespecial 1, 3) := by decide +kernel
theorem dX5_init_4 : decode cX5_init 4 = .ok (.aload_n 0, 1) := by decide +kernel
theorem dX5_init_5 : decode cX5_init 5 = .ok (.iconst 0, 1) := by decide +kernel
theorem dX5_init_6 : decode cX5_init 6 = .ok (.putfield 7, 3) := by decide +kernel
theorem dX5_init_9 : decode cX5_init 9 = .ok (.aload_n 0, 1) := by decide +kernel
theorem dX5_init_10 : decode cX5_init 10 = .ok (.iconst 0, 1) := by decide +kernel
theorem dX5_init_11 : decode cX5_init 11 = .ok (.putfield 13, 3) := by decide +kernel
theorem dX5_init_14 : decode cX5_init 14 = .ok (.aload_n 0, 1) := by decide +kernel
theorem dX5_init_15 : decode cX5_init 15 = .ok (.iconst 0, 1) := by decide +kernel
theorem dX5_init_16 : decode cX5_init 16 = .ok (.putfield 16, 3) := by decide +kernel
theorem dX5_init_19 : decode cX5_init 19 = .ok (.aload_n 0, 1) := by decide +kernel
theorem dX5_init_20 : decode cX5_init 20 = .ok (.iconst 0, 1) := by decide +kernel
theorem dX5_init_21 : decode cX5_init 21 = .ok (.putfield 19, 3) := by decide +kernel
theorem dX5_init_24 : decode cX5_init 24 = .ok (.aload_n 0, 1) := by decide +kernel
theorem dX5_init_25 : decode cX5_init 25 = .ok (.iconst 0, 1) := by decide +kernel
theorem dX5_init_26 : decode cX5_init 26 = .ok (.putfield 22, 3) := by decide +kernel
theorem dX5_init_29 : decode cX5_init 29 = .ok (.aload_n 0, 1) := by decide +kernel
theorem dX5_init_30 : decode cX5_init 30 = .ok (.iconst 0, 1) := by decide +kernel
theorem dX5_init_31 : decode cX5_init 31 = .ok (.putfield 25, 3) := by decide +kernel
theorem dX5_init_34 : decode cX5_init 34 = .ok (.aload_n 0, 1) := by decide +kernel
theorem dX5_init_35 : decode cX5_init 35 = .ok (.iconst 0, 1) := by decide +kernel
theorem dX5_init_36 : decode cX5_init 36 = .ok (.putfield 28, 3) := by decide +kernel
theorem dX5_init_39 : decode cX5_init 39 = .ok (.return_, 1) := by decide +kernel
noncomputable def f_X5_init (G : GG) (v0 : Nat) (h : AH) : Option (AH) :=
ck (m_t h v0 = .inl 5) <|
nn (m_si h v0 0 (0 : Int32)) fun h2 =>
nn (m_si h2 v0 1 (0 : Int32)) fun h3 =>
nn (m_si h3 v0 2 (0 : Int32)) fun h4 =>
nn (m_si h4 v0 3 (0 : Int32)) fun h5 =>
nn (m_si h5 v0 4 (0 : Int32)) fun h6 =>
nn (m_si h6 v0 5 (0 : Int32)) fun h7 =>
nn (m_si h7 v0 6 (0 : Int32)) fun h8 =>
some h8
set_option maxHeartbeats 4000000 in
set_option maxRecDepth 100000 in
theorem ct_X5_init {G : GG} {l : Launch} {v0 : Nat} {h : AH} {y : AH} (hf : f_X5_init G v0 h = some y) : Ct G l yX5_init cX5_init 1 none 1 24 0 0 [.ref v0] h (none, y) := by
  refine ct_of (by decide) (Nat.le_of_ble_eq_true rfl) ?_
  intro p e s m args below meth c C hm hr hin
  have C : Cx G cX5_init RX5 p s m args meth c := C
  refine e_lv (lv2 := [(0, .ref v0)]) [0] rfl ?_
  unfold f_X5_init at hf
  refine e_aload_n (pc := 0) C dX5_init_0 0 rfl rfl ?_
  refine e_objInit (pc := 1) C dX5_init_1 g271 g173 g174 (Nat.le_of_ble_eq_true rfl) (Nat.le_of_ble_eq_true rfl) ?_
  refine e_aload_n (pc := 4) C dX5_init_4 0 rfl rfl ?_
  refine e_iconst (v := (0 : Int32)) (pc := 5) C dX5_init_5 (by decide) ?_
  obtain ⟨t1, hf⟩ := ck_e hf
  refine e_puti (pc := 6) 5 0 C dX5_init_6 (by decide) (by decide) g272 rfl rfl rfl rfl t1 ?_
  obtain ⟨h2, eh2, hf⟩ := nn_e hf
  refine e_hp eh2 ?_
  have uh2 : m_t h2 = m_t h := by rw [eh2]; exact rfl
  refine e_aload_n (pc := 9) C dX5_init_9 0 rfl rfl ?_
  refine e_iconst (v := (0 : Int32)) (pc := 10) C dX5_init_10 (by decide) ?_
  refine e_puti (pc := 11) 5 1 C dX5_init_11 (by decide) (by decide) g275 rfl rfl rfl rfl (e_mt uh2 t1) ?_
  obtain ⟨h3, eh3, hf⟩ := nn_e hf
  refine e_hp eh3 ?_
  have uh3 : m_t h3 = m_t h := by rw [eh3]; exact uh2
  refine e_aload_n (pc := 14) C dX5_init_14 0 rfl rfl ?_
  refine e_iconst (v := (0 : Int32)) (pc := 15) C dX5_init_15 (by decide) ?_
  refine e_puti (pc := 16) 5 2 C dX5_init_16 (by decide) (by decide) g278 rfl rfl rfl rfl (e_mt uh3 t1) ?_
  obtain ⟨h4, eh4, hf⟩ := nn_e hf
  refine e_hp eh4 ?_
  have uh4 : m_t h4 = m_t h := by rw [eh4]; exact uh3
  refine e_aload_n (pc := 19) C dX5_init_19 0 rfl rfl ?_
  refine e_iconst (v := (0 : Int32)) (pc := 20) C dX5_init_20 (by decide) ?_
  refine e_puti (pc := 21) 5 3 C dX5_init_21 (by decide) (by decide) g281 rfl rfl rfl rfl (e_mt uh4 t1) ?_
  obtain ⟨h5, eh5, hf⟩ := nn_e hf
  refine e_hp eh5 ?_
  have uh5 : m_t h5 = m_t h := by rw [eh5]; exact uh4
  refine e_aload_n (pc := 24) C dX5_init_24 0 rfl rfl ?_
  refine e_iconst (v := (0 : Int32)) (pc := 25) C dX5_init_25 (by decide) ?_
  refine e_puti (pc := 26) 5 4 C dX5_init_26 (by decide) (by decide) g286 rfl rfl rfl rfl (e_mt uh5 t1) ?_
  obtain ⟨h6, eh6, hf⟩ := nn_e hf
  refine e_hp eh6 ?_
  have uh6 : m_t h6 = m_t h := by rw [eh6]; exact uh5
  refine e_aload_n (pc := 29) C dX5_init_29 0 rfl rfl ?_
  refine e_iconst (v := (0 : Int32)) (pc := 30) C dX5_init_30 (by decide) ?_
  refine e_puti (pc := 31) 5 5 C dX5_init_31 (by decide) (by decide) g290 rfl rfl rfl rfl (e_mt uh6 t1) ?_
  obtain ⟨h7, eh7, hf⟩ := nn_e hf
  refine e_hp eh7 ?_
  have uh7 : m_t h7 = m_t h := by rw [eh7]; exact uh6
  refine e_aload_n (pc := 34) C dX5_init_34 0 rfl rfl ?_
  refine e_iconst (v := (0 : Int32)) (pc := 35) C dX5_init_35 (by decide) ?_
  refine e_puti (pc := 36) 5 6 C dX5_init_36 (by decide) (by decide) g293 rfl rfl rfl (nz_ok (by decide)) (e_mt uh7 t1) ?_
  obtain ⟨h8, eh8, hf⟩ := nn_e hf
  refine e_hp eh8 ?_
  have uh8 : m_t h8 = m_t h := by rw [eh8]; exact uh7
  obtain rfl := so_e hf
  exact e_vret (pc := 39) C hr dX5_init_39 (Nat.le_of_ble_eq_true rfl) (Nat.le_of_ble_eq_true rfl)
theorem dX8_init_0 : decode cX8_init 0 = .ok (.aload_n 0, 1) := by decide +kernel
theorem dX8_init_1 : decode cX8_init 1 = .ok (.invokespecial 3, 3) := by decide +kernel
theorem dX8_init_4 : decode cX8_init 4 = .ok (.aload_n 0, 1) := by decide +kernel
theorem dX8_init_5 : decode cX8_init 5 = .ok (.sipush 400, 3) := by decide +kernel
theorem dX8_init_8 : decode cX8_init 8 = .ok (.newarray .byte, 2) := by decide +kernel
theorem dX8_init_10 : decode cX8_init 10 = .ok (.putfield 9, 3) := by decide +kernel
theorem dX8_init_13 : decode cX8_init 13 = .ok (.aload_n 0, 1) := by decide +kernel
theorem dX8_init_14 : decode cX8_init 14 = .ok (.iconst 0, 1) := by decide +kernel
theorem dX8_init_15 : decode cX8_init 15 = .ok (.putfield 15, 3) := by decide +kernel
theorem dX8_init_18 : decode cX8_init 18 = .ok (.aload_n 0, 1) := by decide +kernel
theorem dX8_init_19 : decode cX8_init 19 = .ok (.sipush 401, 3) := by decide +kernel
theorem dX8_init_22 : decode cX8_init 22 = .ok (.newarray .int, 2) := by decide +kernel
theorem dX8_init_24 : decode cX8_init 24 = .ok (.putfield 19, 3) := by decide +kernel
theorem dX8_init_27 : decode cX8_init 27 = .ok (.aload_n 0, 1) := by decide +kernel
theorem dX8_init_28 : decode cX8_init 28 = .ok (.sipush 401, 3) := by decide +kernel
theorem dX8_init_31 : decode cX8_init 31 = .ok (.newarray .int, 2) := by decide +kernel
theorem dX8_init_33 : decode cX8_init 33 = .ok (.putfield 23, 3) := by decide +kernel
theorem dX8_init_36 : decode cX8_init 36 = .ok (.aload_n 0, 1) := by decide +kernel
theorem dX8_init_37 : decode cX8_init 37 = .ok (.sipush 401, 3) := by decide +kernel
theorem dX8_init_40 : decode cX8_init 40 = .ok (.newarray .int, 2) := by decide +kernel
theorem dX8_init_42 : decode cX8_init 42 = .ok (.putfield 26, 3) := by decide +kernel
theorem dX8_init_45 : decode cX8_init 45 = .ok (.aload_n 0, 1) := by decide +kernel
theorem dX8_init_46 : decode cX8_init 46 = .ok (.iconst (-1), 1) := by decide +kernel
theorem dX8_init_47 : decode cX8_init 47 = .ok (.putfield 29, 3) := by decide +kernel
theorem dX8_init_50 : decode cX8_init 50 = .ok (.aload_n 0, 1) := by decide +kernel
theorem dX8_init_51 : decode cX8_init 51 = .ok (.iconst 0, 1) := by decide +kernel
theorem dX8_init_52 : decode cX8_init 52 = .ok (.putfield 32, 3) := by decide +kernel
theorem dX8_init_55 : decode cX8_init 55 = .ok (.aload_n 0, 1) := by decide +kernel
theorem dX8_init_56 : decode cX8_init 56 = .ok (.sipush 257, 3) := by decide +kernel
theorem dX8_init_59 : decode cX8_init 59 = .ok (.putfield 35, 3) := by decide +kernel
theorem dX8_init_62 : decode cX8_init 62 = .ok (.aload_n 0, 1) := by decide +kernel
theorem dX8_init_63 : decode cX8_init 63 = .ok (.iconst 0, 1) := by decide +kernel
theorem dX8_init_64 : decode cX8_init 64 = .ok (.putfield 38, 3) := by decide +kernel
theorem dX8_init_67 : decode cX8_init 67 = .ok (.aload_n 0, 1) := by decide +kernel
theorem dX8_init_68 : decode cX8_init 68 = .ok (.iconst 0, 1) := by decide +kernel
theorem dX8_init_69 : decode cX8_init 69 = .ok (.putfield 41, 3) := by decide +kernel
theorem dX8_init_72 : decode cX8_init 72 = .ok (.return_, 1) := by decide +kernel
noncomputable def f_X8_init (G : GG) (v0 : Nat) (h : AH) : Option (AH) :=
nn (m_n h) fun x1 =>
nn (m_new h (.inr (.byte, 400))) fun h2 =>
ck (m_t h2 v0 = .inl 8) <|
nn (m_sr h2 v0 0 (some x1)) fun h4 =>
nn (m_si h4 v0 1 (0 : Int32)) fun h5 =>
nn (m_n h5) fun x6 =>
nn (m_new h5 (.inr (.int, 401))) fun h7 =>
ck (m_t h7 v0 = .inl 8) <|
nn (m_sr h7 v0 2 (some x6)) fun h9 =>
nn (m_n h9) fun x10 =>
nn (m_new h9 (.inr (.int, 401))) fun h11 =>
ck (m_t h11 v0 = .inl 8) <|
nn (m_sr h11 v0 3 (some x10)) fun h13 =>
nn (m_n h13) fun x14 =>
nn (m_new h13 (.inr (.int, 401))) fun h15 =>
ck (m_t h15 v0 = .inl 8) <|
nn (m_sr h15 v0 4 (some x14)) fun h17 =>
nn (m_si h17 v0 5 (-1 : Int32)) fun h18 =>
nn (m_si h18 v0 6 (0 : Int32)) fun h19 =>
nn (m_si h19 v0 7 (257 : Int32)) fun h20 =>
nn (m_si h20 v0 8 (0 : Int32)) fun h21 =>
nn (m_si h21 v0 9 (0 : Int32)) fun h22 =>
some h22
set_option maxHeartbeats 4000000 in
set_option maxRecDepth 100000 in
theorem ct_X8_init {G : GG} {l : Launch} {v0 : Nat} {h : AH} {y : AH} (hf : f_X8_init G v0 h = some y) : Ct G l yX8_init cX8_init 1 none 1 24 4 1603 [.ref v0] h (none, y) := by
  refine ct_of (by decide) (Nat.le_of_ble_eq_true rfl) ?_
  intro p e s m args below meth c C hm hr hin
  have C : Cx G cX8_init RX8 p s m args meth c := C
  refine e_lv (lv2 := [(0, .ref v0)]) [0] rfl ?_
  unfold f_X8_init at hf
  refine e_aload_n (pc := 0) C dX8_init_0 0 rfl rfl ?_
  refine e_objInit (pc := 1) C dX8_init_1 g180 g173 g174 (Nat.le_of_ble_eq_true rfl) (Nat.le_of_ble_eq_true rfl) ?_
  refine e_aload_n (pc := 4) C dX8_init_4 0 rfl rfl ?_
  refine e_sipush (v := (400 : Int32)) (pc := 5) C dX8_init_5 (by decide) ?_
  refine e_newb (pc := 8) C dX8_init_8 g219 (by decide) (N := 400) (by decide) (by decide) (Nat.le_of_ble_eq_true rfl) (Nat.le_of_ble_eq_true rfl) ?_
  obtain ⟨x1, ex1, hf⟩ := nn_e hf
  refine e_topr ex1 ?_
  obtain ⟨h2, eh2, hf⟩ := nn_e hf
  refine e_hp eh2 ?_
  obtain ⟨t3, hf⟩ := ck_e hf
  refine e_putrF (pc := 10) (x := some x1) 8 0 C hin dX8_init_10 (by decide) (by decide) g181 rfl rfl rfl rfl rfl t3 ?_
  obtain ⟨h4, eh4, hf⟩ := nn_e hf
  refine e_hp eh4 ?_
  have uh4 : m_t h4 = m_t h2 := by rw [eh4]; exact rfl
  refine e_aload_n (pc := 13) C dX8_init_13 0 rfl rfl ?_
  refine e_iconst (v := (0 : Int32)) (pc := 14) C dX8_init_14 (by decide) ?_
  refine e_puti (pc := 15) 8 1 C dX8_init_15 (by decide) (by decide) g182 rfl rfl rfl rfl (e_mt uh4 t3) ?_
  obtain ⟨h5, eh5, hf⟩ := nn_e hf
  refine e_hp eh5 ?_
  have uh5 : m_t h5 = m_t h2 := by rw [eh5]; exact uh4
  refine e_aload_n (pc := 18) C dX8_init_18 0 rfl rfl ?_
  refine e_sipush (v := (401 : Int32)) (pc := 19) C dX8_init_19 (by decide) ?_
  refine e_newi (pc := 22) C dX8_init_22 g220 (by decide) (N := 401) (by decide) (by decide) (Nat.le_of_ble_eq_true rfl) (Nat.le_of_ble_eq_true rfl) ?_
  obtain ⟨x6, ex6, hf⟩ := nn_e hf
  refine e_topr ex6 ?_
  obtain ⟨h7, eh7, hf⟩ := nn_e hf
  refine e_hp eh7 ?_
  obtain ⟨t8, hf⟩ := ck_e hf
  refine e_putrF (pc := 24) (x := some x6) 8 2 C hin dX8_init_24 (by decide) (by decide) g184 rfl rfl rfl rfl rfl t8 ?_
  obtain ⟨h9, eh9, hf⟩ := nn_e hf
  refine e_hp eh9 ?_
  have uh9 : m_t h9 = m_t h7 := by rw [eh9]; exact rfl
  refine e_aload_n (pc := 27) C dX8_init_27 0 rfl rfl ?_
  refine e_sipush (v := (401 : Int32)) (pc := 28) C dX8_init_28 (by decide) ?_
  refine e_newi (pc := 31) C dX8_init_31 g220 (by decide) (N := 401) (by decide) (by decide) (Nat.le_of_ble_eq_true rfl) (Nat.le_of_ble_eq_true rfl) ?_
  obtain ⟨x10, ex10, hf⟩ := nn_e hf
  refine e_topr ex10 ?_
  obtain ⟨h11, eh11, hf⟩ := nn_e hf
  refine e_hp eh11 ?_
  obtain ⟨t12, hf⟩ := ck_e hf
  refine e_putrF (pc := 33) (x := some x10) 8 3 C hin dX8_init_33 (by decide) (by decide) g185 rfl rfl rfl rfl rfl t12 ?_
  obtain ⟨h13, eh13, hf⟩ := nn_e hf
  refine e_hp eh13 ?_
  have uh13 : m_t h13 = m_t h11 := by rw [eh13]; exact rfl
  refine e_aload_n (pc := 36) C dX8_init_36 0 rfl rfl ?_
  refine e_sipush (v := (401 : Int32)) (pc := 37) C dX8_init_37 (by decide) ?_
  refine e_newi (pc := 40) C dX8_init_40 g220 (by decide) (N := 401) (by decide) (by decide) (Nat.le_of_ble_eq_true rfl) (Nat.le_of_ble_eq_true rfl) ?_
  obtain ⟨x14, ex14, hf⟩ := nn_e hf
  refine e_topr ex14 ?_
  obtain ⟨h15, eh15, hf⟩ := nn_e hf
  refine e_hp eh15 ?_
  obtain ⟨t16, hf⟩ := ck_e hf
  refine e_putrF (pc := 42) (x := some x14) 8 4 C hin dX8_init_42 (by decide) (by decide) g186 rfl rfl rfl rfl rfl t16 ?_
  obtain ⟨h17, eh17, hf⟩ := nn_e hf
  refine e_hp eh17 ?_
  have uh17 : m_t h17 = m_t h15 := by rw [eh17]; exact rfl
  refine e_aload_n (pc := 45) C dX8_init_45 0 rfl rfl ?_
  refine e_iconst (v := (-1 : Int32)) (pc := 46) C dX8_init_46 (by decide) ?_
  refine e_puti (pc := 47) 8 5 C dX8_init_47 (by decide) (by decide) g187 rfl rfl rfl rfl (e_mt uh17 t16) ?_
  obtain ⟨h18, eh18, hf⟩ := nn_e hf
  refine e_hp eh18 ?_
  have uh18 : m_t h18 = m_t h15 := by rw [eh18]; exact uh17
  refine e_aload_n (pc := 50) C dX8_init_50 0 rfl rfl ?_
  refine e_iconst (v := (0 : Int32)) (pc := 51) C dX8_init_51 (by decide) ?_
  refine e_puti (pc := 52) 8 6 C dX8_init_52 (by decide) (by decide) g188 rfl rfl rfl rfl (e_mt uh18 t16) ?_
  obtain ⟨h19, eh19, hf⟩ := nn_e hf
  refine e_hp eh19 ?_
  have uh19 : m_t h19 = m_t h15 := by rw [eh19]; exact uh18
  refine e_aload_n (pc := 55) C dX8_init_55 0 rfl rfl ?_
  refine e_sipush (v := (257 : Int32)) (pc := 56) C dX8_init_56 (by decide) ?_
  refine e_puti (pc := 59) 8 7 C dX8_init_59 (by decide) (by decide) g189 rfl rfl rfl rfl (e_mt uh19 t16) ?_
  obtain ⟨h20, eh20, hf⟩ := nn_e hf
  refine e_hp eh20 ?_
  have uh20 : m_t h20 = m_t h15 := by rw [eh20]; exact uh19
  refine e_aload_n (pc := 62) C dX8_init_62 0 rfl rfl ?_
  refine e_iconst (v := (0 : Int32)) (pc := 63) C dX8_init_63 (by decide) ?_
  refine e_puti (pc := 64) 8 8 C dX8_init_64 (by decide) (by decide) g192 rfl rfl rfl rfl (e_mt uh20 t16) ?_
  obtain ⟨h21, eh21, hf⟩ := nn_e hf
  refine e_hp eh21 ?_
  have uh21 : m_t h21 = m_t h15 := by rw [eh21]; exact uh20
  refine e_aload_n (pc := 67) C dX8_init_67 0 rfl rfl ?_
  refine e_iconst (v := (0 : Int32)) (pc := 68) C dX8_init_68 (by decide) ?_
  refine e_puti (pc := 69) 8 9 C dX8_init_69 (by decide) (by decide) g194 rfl rfl rfl rfl (e_mt uh21 t16) ?_
  obtain ⟨h22, eh22, hf⟩ := nn_e hf
  refine e_hp eh22 ?_
  have uh22 : m_t h22 = m_t h15 := by rw [eh22]; exact uh21
  obtain rfl := so_e hf
  exact e_vret (pc := 72) C hr dX8_init_72 (Nat.le_of_ble_eq_true rfl) (Nat.le_of_ble_eq_true rfl)
theorem dX9_init_0 : decode cX9_init 0 = .ok (.aload_n 0, 1) := by decide +kernel
theorem dX9_init_1 : decode cX9_init 1 = .ok (.invokespecial 3, 3) := by decide +kernel
theorem dX9_init_4 : decode cX9_init 4 = .ok (.aload_n 0, 1) := by decide +kernel
theorem dX9_init_5 : decode cX9_init 5 = .ok (.iconst 0, 1) := by decide +kernel
theorem dX9_init_6 : decode cX9_init 6 = .ok (.putfield 9, 3) := by decide +kernel
theorem dX9_init_9 : decode cX9_init 9 = .ok (.aload_n 0, 1) := by decide +kernel
theorem dX9_init_10 : decode cX9_init 10 = .ok (.iconst 0, 1) := by decide +kernel
theorem dX9_init_11 : decode cX9_init 11 = .ok (.putfield 15, 3) := by decide +kernel
theorem dX9_init_14 : decode cX9_init 14 = .ok (.aload_n 0, 1) := by decide +kernel
theorem dX9_init_15 : decode cX9_init 15 = .ok (.iconst 0, 1) := by decide +kernel
theorem dX9_init_16 : decode cX9_init 16 = .ok (.putfield 19, 3) := by decide +kernel
theorem dX9_init_19 : decode cX9_init 19 = .ok (.aload_n 0, 1) := by decide +kernel
theorem dX9_init_20 : decode cX9_init 20 = .ok (.iconst 0, 1) := by decide +kernel
theorem dX9_init_21 : decode cX9_init 21 = .ok (.putfield 22, 3) := by decide +kernel
theorem dX9_init_24 : decode cX9_init 24 = .ok (.aload_n 0, 1) := by decide +kernel
theorem dX9_init_25 : decode cX9_init 25 = .ok (.iconst 0, 1) := by decide +kernel
theorem dX9_init_26 : decode cX9_init 26 = .ok (.putfield 25, 3) := by decide +kernel
theorem dX9_init_29 : decode cX9_init 29 = .ok (.aload_n 0, 1) := by decide +kernel
theorem dX9_init_30 : decode cX9_init 30 = .ok (.iconst 0, 1) := by decide +kernel
theorem dX9_init_31 : decode cX9_init 31 = .ok (.putfield 28, 3) := by decide +kernel
theorem dX9_init_34 : decode cX9_init 34 = .ok (.aload_n 0, 1) := by decide +kernel
theorem dX9_init_35 : decode cX9_init 35 = .ok (.bipush 8, 2) := by decide +kernel
theorem dX9_init_37 : decode cX9_init 37 = .ok (.anewarray 31, 3) := by decide +kernel
theorem dX9_init_40 : decode cX9_init 40 = .ok (.putfield 33, 3) := by decide +kernel
theorem dX9_init_43 : decode cX9_init 43 = .ok (.aload_n 0, 1) := by decide +kernel
theorem dX9_init_44 : decode cX9_init 44 = .ok (.iconst 0, 1) := by decide +kernel
theorem dX9_init_45 : decode cX9_init 45 = .ok (.putfield 37, 3) := by decide +kernel
theorem dX9_init_48 : decode cX9_init 48 = .ok (.aload_n 0, 1) := by decide +kernel
theorem dX9_init_49 : decode cX9_init 49 = .ok (.iconst 5, 1) := by decide +kernel
theorem dX9_init_50 : decode cX9_init 50 = .ok (.newarray .int, 2) := by decide +kernel
theorem dX9_init_52 : decode cX9_init 52 = .ok (.putfield 40, 3) := by decide +kernel
theorem dX9_init_55 : decode cX9_init 55 = .ok (.aload_n 0, 1) := by decide +kernel
theorem dX9_init_56 : decode cX9_init 56 = .ok (.iconst 5, 1) := by decide +kernel
theorem dX9_init_57 : decode cX9_init 57 = .ok (.newarray .int, 2) := by decide +kernel
theorem dX9_init_59 : decode cX9_init 59 = .ok (.putfield 44, 3) := by decide +kernel
theorem dX9_init_62 : decode cX9_init 62 = .ok (.aload_n 0, 1) := by decide +kernel
theorem dX9_init_63 : decode cX9_init 63 = .ok (.iconst 0, 1) := by decide +kernel
theorem dX9_init_64 : decode cX9_init 64 = .ok (.putfield 47, 3) := by decide +kernel
theorem dX9_init_67 : decode cX9_init 67 = .ok (.aload_n 0, 1) := by decide +kernel
theorem dX9_init_68 : decode cX9_init 68 = .ok (.iconst 5, 1) := by decide +kernel
theorem dX9_init_69 : decode cX9_init 69 = .ok (.newarray .int, 2) := by decide +kernel
theorem dX9_init_71 : decode cX9_init 71 = .ok (.putfield 50, 3) := by decide +kernel
theorem dX9_init_74 : decode cX9_init 74 = .ok (.aload_n 0, 1) := by decide +kernel
theorem dX9_init_75 : decode cX9_init 75 = .ok (.iconst 5, 1) := by decide +kernel
theorem dX9_init_76 : decode cX9_init 76 = .ok (.newarray .int, 2) := by decide +kernel
theorem dX9_init_78 : decode cX9_init 78 = .ok (.putfield 53, 3) := by decide +kernel
theorem dX9_init_81 : decode cX9_init 81 = .ok (.aload_n 0, 1) := by decide +kernel
theorem dX9_init_82 : decode cX9_init 82 = .ok (.iconst 5, 1) := by decide +kernel
theorem dX9_init_83 : decode cX9_init 83 = .ok (.newarray .int, 2) := by decide +kernel
theorem dX9_init_85 : decode cX9_init 85 = .ok (.putfield 56, 3) := by decide +kernel
theorem dX9_init_88 : decode cX9_init 88 = .ok (.iconst 0, 1) := by decide +kernel
theorem dX9_init_89 : decode cX9_init 89 = .ok (.istore_n 1, 1) := by decide +kernel
theorem dX9_init_90 : decode cX9_init 90 = .ok (.iload_n 1, 1) := by decide +kernel
theorem dX9_init_91 : decode cX9_init 91 = .ok (.bipush 8, 2) := by decide +kernel
theorem dX9_init_93 : decode cX9_init 93 = .ok (.if_icmp .ge 22, 3) := by decide +kernel
theorem dX9_init_96 : decode cX9_init 96 = .ok (.aload_n 0, 1) := by decide +kernel
theorem dX9_init_97 : decode cX9_init 97 = .ok (.getfield 33, 3) := by decide +kernel
theorem dX9_init_100 : decode cX9_init 100 = .ok (.iload_n 1, 1) := by decide +kernel
theorem dX9_init_101 : decode cX9_init 101 = .ok (.new 31, 3) := by decide +kernel
theorem dX9_init_104 : decode cX9_init 104 = .ok (.dup, 1) := by decide +kernel
theorem dX9_init_105 : decode cX9_init 105 = .ok (.invokespecial 59, 3) := by decide +kernel
theorem dX9_init_108 : decode cX9_init 108 = .ok (.aastore, 1) := by decide +kernel
theorem dX9_init_109 : decode cX9_init 109 = .ok (.iinc 1 1, 3) := by decide +kernel
theorem dX9_init_112 : decode cX9_init 112 = .ok (.goto (-22), 3) := by decide +kernel
theorem dX9_init_115 : decode cX9_init 115 = .ok (.return_, 1) := by decide +kernel
noncomputable def f_X9_init (G : GG) (v0 : Nat) (h : AH) : Option (AH) :=
ck (m_t h v0 = .inl 9) <|
nn (m_si h v0 0 (0 : Int32)) fun h2 =>
nn (m_si h2 v0 1 (0 : Int32)) fun h3 =>
nn (m_si h3 v0 2 (0 : Int32)) fun h4 =>
nn (m_si h4 v0 3 (0 : Int32)) fun h5 =>
nn (m_si h5 v0 4 (0 : Int32)) fun h6 =>
nn (m_si h6 v0 5 (0 : Int32)) fun h7 =>
nn (m_n h7) fun x8 =>
nn (m_new h7 (.inr ((.object RX5), 8))) fun h9 =>
ck (m_t h9 v0 = .inl 9) <|
nn (m_sr h9 v0 6 (some x8)) fun h11 =>
nn (m_si h11 v0 7 (0 : Int32)) fun h12 =>
nn (m_n h12) fun x13 =>
nn (m_new h12 (.inr (.int, 5))) fun h14 =>
ck (m_t h14 v0 = .inl 9) <|
nn (m_sr h14 v0 8 (some x13)) fun h16 =>
nn (m_n h16) fun x17 =>
nn (m_new h16 (.inr (.int, 5))) fun h18 =>
ck (m_t h18 v0 = .inl 9) <|
nn (m_sr h18 v0 9 (some x17)) fun h20 =>
nn (m_si h20 v0 10 (0 : Int32)) fun h21 =>
nn (m_n h21) fun x22 =>
nn (m_new h21 (.inr (.int, 5))) fun h23 =>
ck (m_t h23 v0 = .inl 9) <|
nn (m_sr h23 v0 11 (some x22)) fun h25 =>
nn (m_n h25) fun x26 =>
nn (m_new h25 (.inr (.int, 5))) fun h27 =>
ck (m_t h27 v0 = .inl 9) <|
nn (m_sr h27 v0 12 (some x26)) fun h29 =>
nn (m_n h29) fun x30 =>
nn (m_new h29 (.inr (.int, 5))) fun h31 =>
ck (m_t h31 v0 = .inl 9) <|
nn (m_sr h31 v0 13 (some x30)) fun h33 =>
ob (m_r h33 v0 6) fun b34 =>
nn (m_n h33) fun x35 =>
nn (m_new h33 (.inl 5)) fun h36 =>
ob (f_X5_init G x35 h36) fun h37 =>
ck (m_t h37 x35 = .inl 5) <|
ck (ixb h37 b34 (.object RX5) (0 : Int32) = true) <|
nn (m_sr h37 b34 (0 : Int32).toNatClampNeg (some x35)) fun h42 =>
ck (m_t h42 v0 = .inl 9) <|
ob (m_r h42 v0 6) fun b44 =>
nn (m_n h42) fun x45 =>
nn (m_new h42 (.inl 5)) fun h46 =>
ob (f_X5_init G x45 h46) fun h47 =>
ck (m_t h47 x45 = .inl 5) <|
ck (ixb h47 b44 (.object RX5) (1 : Int32) = true) <|
nn (m_sr h47 b44 (1 : Int32).toNatClampNeg (some x45)) fun h52 =>
ck (m_t h52 v0 = .inl 9) <|
ob (m_r h52 v0 6) fun b54 =>
nn (m_n h52) fun x55 =>
nn (m_new h52 (.inl 5)) fun h56 =>
ob (f_X5_init G x55 h56) fun h57 =>
ck (m_t h57 x55 = .inl 5) <|
ck (ixb h57 b54 (.object RX5) (2 : Int32) = true) <|
nn (m_sr h57 b54 (2 : Int32).toNatClampNeg (some x55)) fun h62 =>
ck (m_t h62 v0 = .inl 9) <|
ob (m_r h62 v0 6) fun b64 =>
nn (m_n h62) fun x65 =>
nn (m_new h62 (.inl 5)) fun h66 =>
ob (f_X5_init G x65 h66) fun h67 =>
ck (m_t h67 x65 = .inl 5) <|
ck (ixb h67 b64 (.object RX5) (3 : Int32) = true) <|
nn (m_sr h67 b64 (3 : Int32).toNatClampNeg (some x65)) fun h72 =>
ck (m_t h72 v0 = .inl 9) <|
ob (m_r h72 v0 6) fun b74 =>
nn (m_n h72) fun x75 =>
nn (m_new h72 (.inl 5)) fun h76 =>
ob (f_X5_init G x75 h76) fun h77 =>
ck (m_t h77 x75 = .inl 5) <|
ck (ixb h77 b74 (.object RX5) (4 : Int32) = true) <|
nn (m_sr h77 b74 (4 : Int32).toNatClampNeg (some x75)) fun h82 =>
ck (m_t h82 v0 = .inl 9) <|
ob (m_r h82 v0 6) fun b84 =>
nn (m_n h82) fun x85 =>
nn (m_new h82 (.inl 5)) fun h86 =>
ob (f_X5_init G x85 h86) fun h87 =>
ck (m_t h87 x85 = .inl 5) <|
ck (ixb h87 b84 (.object RX5) (5 : Int32) = true) <|
nn (m_sr h87 b84 (5 : Int32).toNatClampNeg (some x85)) fun h92 =>
ck (m_t h92 v0 = .inl 9) <|
ob (m_r h92 v0 6) fun b94 =>
nn (m_n h92) fun x95 =>
nn (m_new h92 (.inl 5)) fun h96 =>
ob (f_X5_init G x95 h96) fun h97 =>
ck (m_t h97 x95 = .inl 5) <|
ck (ixb h97 b94 (.object RX5) (6 : Int32) = true) <|
nn (m_sr h97 b94 (6 : Int32).toNatClampNeg (some x95)) fun h102 =>
ck (m_t h102 v0 = .inl 9) <|
ob (m_r h102 v0 6) fun b104 =>
nn (m_n h102) fun x105 =>
nn (m_new h102 (.inl 5)) fun h106 =>
ob (f_X5_init G x105 h106) fun h107 =>
ck (m_t h107 x105 = .inl 5) <|
ck (ixb h107 b104 (.object RX5) (7 : Int32) = true) <|
nn (m_sr h107 b104 (7 : Int32).toNatClampNeg (some x105)) fun h112 =>
some h112
set_option maxHeartbeats 4000000 in
set_option maxRecDepth 100000 in
theorem ct_X9_init {G : GG} {l : Launch} {v0 : Nat} {h : AH} {y : AH} (hf : f_X9_init G v0 h = some y) : Ct G l yX9_init cX9_init 2 none 2 44 14 89 [.ref v0] h (none, y) := by
  refine ct_of (by decide) (Nat.le_of_ble_eq_true rfl) ?_
  intro p e s m args below meth c C hm hr hin
  have C : Cx G cX9_init RX9 p s m args meth c := C
  refine e_lv (lv2 := [(0, .ref v0)]) [0] rfl ?_
  unfold f_X9_init at hf
  refine e_aload_n (pc := 0) C dX9_init_0 0 rfl rfl ?_
  refine e_objInit (pc := 1) C dX9_init_1 g264 g173 g174 (Nat.le_of_ble_eq_true rfl) (Nat.le_of_ble_eq_true rfl) ?_
  refine e_aload_n (pc := 4) C dX9_init_4 0 rfl rfl ?_
  refine e_iconst (v := (0 : Int32)) (pc := 5) C dX9_init_5 (by decide) ?_
  obtain ⟨t1, hf⟩ := ck_e hf
  refine e_puti (pc := 6) 9 0 C dX9_init_6 (by decide) (by decide) g312 rfl rfl rfl (nz_ok (by decide)) t1 ?_
  obtain ⟨h2, eh2, hf⟩ := nn_e hf
  refine e_hp eh2 ?_
  have uh2 : m_t h2 = m_t h := by rw [eh2]; exact rfl
  refine e_aload_n (pc := 9) C dX9_init_9 0 rfl rfl ?_
  refine e_iconst (v := (0 : Int32)) (pc := 10) C dX9_init_10 (by decide) ?_
  refine e_puti (pc := 11) 9 1 C dX9_init_11 (by decide) (by decide) g315 rfl rfl rfl rfl (e_mt uh2 t1) ?_
  obtain ⟨h3, eh3, hf⟩ := nn_e hf
  refine e_hp eh3 ?_
  have uh3 : m_t h3 = m_t h := by rw [eh3]; exact uh2
  refine e_aload_n (pc := 14) C dX9_init_14 0 rfl rfl ?_
  refine e_iconst (v := (0 : Int32)) (pc := 15) C dX9_init_15 (by decide) ?_
  refine e_puti (pc := 16) 9 2 C dX9_init_16 (by decide) (by decide) g319 rfl rfl rfl rfl (e_mt uh3 t1) ?_
  obtain ⟨h4, eh4, hf⟩ := nn_e hf
  refine e_hp eh4 ?_
  have uh4 : m_t h4 = m_t h := by rw [eh4]; exact uh3
  refine e_aload_n (pc := 19) C dX9_init_19 0 rfl rfl ?_
  refine e_iconst (v := (0 : Int32)) (pc := 20) C dX9_init_20 (by decide) ?_
  refine e_puti (pc := 21) 9 3 C dX9_init_21 (by decide) (by decide) g323 rfl rfl rfl rfl (e_mt uh4 t1) ?_
  obtain ⟨h5, eh5, hf⟩ := nn_e hf
  refine e_hp eh5 ?_
  have uh5 : m_t h5 = m_t h := by rw [eh5]; exact uh4
  refine e_aload_n (pc := 24) C dX9_init_24 0 rfl rfl ?_
  refine e_iconst (v := (0 : Int32)) (pc := 25) C dX9_init_25 (by decide) ?_
  refine e_puti (pc := 26) 9 4 C dX9_init_26 (by decide) (by decide) g329 rfl rfl rfl rfl (e_mt uh5 t1) ?_
  obtain ⟨h6, eh6, hf⟩ := nn_e hf
  refine e_hp eh6 ?_
  have uh6 : m_t h6 = m_t h := by rw [eh6]; exact uh5
  refine e_aload_n (pc := 29) C dX9_init_29 0 rfl rfl ?_
  refine e_iconst (v := (0 : Int32)) (pc := 30) C dX9_init_30 (by decide) ?_
  refine e_puti (pc := 31) 9 5 C dX9_init_31 (by decide) (by decide) g332 rfl rfl rfl rfl (e_mt uh6 t1) ?_
  obtain ⟨h7, eh7, hf⟩ := nn_e hf
  refine e_hp eh7 ?_
  have uh7 : m_t h7 = m_t h := by rw [eh7]; exact uh6
  refine e_aload_n (pc := 34) C dX9_init_34 0 rfl rfl ?_
  refine e_bipush (v := (8 : Int32)) (pc := 35) C dX9_init_35 (by decide) ?_
  refine e_anew (pc := 37) (t0 := 4) (N := 8) C dX9_init_37 rfl g265 C.2.2.2.2.1.2.2.1.1 (by decide) (by decide) (by decide) (Nat.le_of_ble_eq_true rfl) (Nat.le_of_ble_eq_true rfl) ?_
  obtain ⟨x8, ex8, hf⟩ := nn_e hf
  refine e_topr ex8 ?_
  obtain ⟨h9, eh9, hf⟩ := nn_e hf
  refine e_hp eh9 ?_
  obtain ⟨t10, hf⟩ := ck_e hf
  refine e_putrF (pc := 40) (x := some x8) 9 6 C hin dX9_init_40 (by decide) (by decide) g339 rfl rfl rfl rfl rfl t10 ?_
  obtain ⟨h11, eh11, hf⟩ := nn_e hf
  refine e_hp eh11 ?_
  have uh11 : m_t h11 = m_t h9 := by rw [eh11]; exact rfl
  refine e_aload_n (pc := 43) C dX9_init_43 0 rfl rfl ?_
  refine e_iconst (v := (0 : Int32)) (pc := 44) C dX9_init_44 (by decide) ?_
  refine e_puti (pc := 45) 9 7 C dX9_init_45 (by decide) (by decide) g344 rfl rfl rfl rfl (e_mt uh11 t10) ?_
  obtain ⟨h12, eh12, hf⟩ := nn_e hf
  refine e_hp eh12 ?_
  have uh12 : m_t h12 = m_t h9 := by rw [eh12]; exact uh11
  refine e_aload_n (pc := 48) C dX9_init_48 0 rfl rfl ?_
  refine e_iconst (v := (5 : Int32)) (pc := 49) C dX9_init_49 (by decide) ?_
  refine e_newi (pc := 50) C dX9_init_50 g220 (by decide) (N := 5) (by decide) (by decide) (Nat.le_of_ble_eq_true rfl) (Nat.le_of_ble_eq_true rfl) ?_
  obtain ⟨x13, ex13, hf⟩ := nn_e hf
  refine e_topr ex13 ?_
  obtain ⟨h14, eh14, hf⟩ := nn_e hf
  refine e_hp eh14 ?_
  obtain ⟨t15, hf⟩ := ck_e hf
  refine e_putrF (pc := 52) (x := some x13) 9 8 C hin dX9_init_52 (by decide) (by decide) g347 rfl rfl rfl rfl rfl t15 ?_
  obtain ⟨h16, eh16, hf⟩ := nn_e hf
  refine e_hp eh16 ?_
  have uh16 : m_t h16 = m_t h14 := by rw [eh16]; exact rfl
  refine e_aload_n (pc := 55) C dX9_init_55 0 rfl rfl ?_
  refine e_iconst (v := (5 : Int32)) (pc := 56) C dX9_init_56 (by decide) ?_
  refine e_newi (pc := 57) C dX9_init_57 g220 (by decide) (N := 5) (by decide) (by decide) (Nat.le_of_ble_eq_true rfl) (Nat.le_of_ble_eq_true rfl) ?_
  obtain ⟨x17, ex17, hf⟩ := nn_e hf
  refine e_topr ex17 ?_
  obtain ⟨h18, eh18, hf⟩ := nn_e hf
  refine e_hp eh18 ?_
  obtain ⟨t19, hf⟩ := ck_e hf
  refine e_putrF (pc := 59) (x := some x17) 9 9 C hin dX9_init_59 (by decide) (by decide) g349 rfl rfl rfl rfl rfl t19 ?_
  obtain ⟨h20, eh20, hf⟩ := nn_e hf
  refine e_hp eh20 ?_
  have uh20 : m_t h20 = m_t h18 := by rw [eh20]; exact rfl
  refine e_aload_n (pc := 62) C dX9_init_62 0 rfl rfl ?_
  refine e_iconst (v := (0 : Int32)) (pc := 63) C dX9_init_63 (by decide) ?_
  refine e_puti (pc := 64) 9 10 C dX9_init_64 (by decide) (by decide) g351 rfl rfl rfl rfl (e_mt uh20 t19) ?_
  obtain ⟨h21, eh21, hf⟩ := nn_e hf
  refine e_hp eh21 ?_
  have uh21 : m_t h21 = m_t h18 := by rw [eh21]; exact uh20
  refine e_aload_n (pc := 67) C dX9_init_67 0 rfl rfl ?_
  refine e_iconst (v := (5 : Int32)) (pc := 68) C dX9_init_68 (by decide) ?_
  refine e_newi (pc := 69) C dX9_init_69 g220 (by decide) (N := 5) (by decide) (by decide) (Nat.le_of_ble_eq_true rfl) (Nat.le_of_ble_eq_true rfl) ?_
  obtain ⟨x22, ex22, hf⟩ := nn_e hf
  refine e_topr ex22 ?_
  obtain ⟨h23, eh23, hf⟩ := nn_e hf
  refine e_hp eh23 ?_
  obtain ⟨t24, hf⟩ := ck_e hf
  refine e_putrF (pc := 71) (x := some x22) 9 11 C hin dX9_init_71 (by decide) (by decide) g354 rfl rfl rfl rfl rfl t24 ?_
  obtain ⟨h25, eh25, hf⟩ := nn_e hf
  refine e_hp eh25 ?_
  have uh25 : m_t h25 = m_t h23 := by rw [eh25]; exact rfl
  refine e_aload_n (pc := 74) C dX9_init_74 0 rfl rfl ?_
  refine e_iconst (v := (5 : Int32)) (pc := 75) C dX9_init_75 (by decide) ?_
  refine e_newi (pc := 76) C dX9_init_76 g220 (by decide) (N := 5) (by decide) (by decide) (Nat.le_of_ble_eq_true rfl) (Nat.le_of_ble_eq_true rfl) ?_
  obtain ⟨x26, ex26, hf⟩ := nn_e hf
  refine e_topr ex26 ?_
  obtain ⟨h27, eh27, hf⟩ := nn_e hf
  refine e_hp eh27 ?_
  obtain ⟨t28, hf⟩ := ck_e hf
  refine e_putrF (pc := 78) (x := some x26) 9 12 C hin dX9_init_78 (by decide) (by decide) g356 rfl rfl rfl rfl rfl t28 ?_
  obtain ⟨h29, eh29, hf⟩ := nn_e hf
  refine e_hp eh29 ?_
  have uh29 : m_t h29 = m_t h27 := by rw [eh29]; exact rfl
  refine e_aload_n (pc := 81) C dX9_init_81 0 rfl rfl ?_
  refine e_iconst (v := (5 : Int32)) (pc := 82) C dX9_init_82 (by decide) ?_
  refine e_newi (pc := 83) C dX9_init_83 g220 (by decide) (N := 5) (by decide) (by decide) (Nat.le_of_ble_eq_true rfl) (Nat.le_of_ble_eq_true rfl) ?_
  obtain ⟨x30, ex30, hf⟩ := nn_e hf
  refine e_topr ex30 ?_
  obtain ⟨h31, eh31, hf⟩ := nn_e hf
  refine e_hp eh31 ?_
  obtain ⟨t32, hf⟩ := ck_e hf
  refine e_putrF (pc := 85) (x := some x30) 9 13 C hin dX9_init_85 (by decide) (by decide) g358 rfl rfl rfl rfl rfl t32 ?_
  obtain ⟨h33, eh33, hf⟩ := nn_e hf
  refine e_hp eh33 ?_
  have uh33 : m_t h33 = m_t h31 := by rw [eh33]; exact rfl
  refine e_iconst (v := (0 : Int32)) (pc := 88) C dX9_init_88 (by decide) ?_
  refine e_istore_n (pc := 89) (lv2 := [(1, .int (0 : Int32)), (0, .ref v0)]) C hm dX9_init_89 rfl (by decide) rfl ?_
  refine e_iload_n (pc := 90) C dX9_init_90 0 rfl rfl ?_
  refine e_bipush (v := (8 : Int32)) (pc := 91) C dX9_init_91 (by decide) ?_
  refine e_icmp_ge (pc := 93) (tgt := 115) C dX9_init_93 (by decide) (fun q => absurd q (by decide)) (fun _ => ?_)
  refine e_aload_n (pc := 96) C dX9_init_96 1 rfl rfl ?_
  refine e_getr (pc := 97) 9 6 C dX9_init_97 (by decide) (by decide) g339 rfl (e_mt uh33 t32) ?_
  obtain ⟨b34, eb34, hf⟩ := ob_e hf
  refine e_rf eb34 ?_
  refine e_iload_n (pc := 100) C dX9_init_100 0 rfl rfl ?_
  refine e_new (pc := 101) (ci := 5) C dX9_init_101 (by decide) g265 g267 g153 (Nat.le_of_ble_eq_true rfl) (Nat.le_of_ble_eq_true rfl) ?_
  obtain ⟨x35, ex35, hf⟩ := nn_e hf
  refine e_topr ex35 ?_
  obtain ⟨h36, eh36, hf⟩ := nn_e hf
  refine e_hp eh36 ?_
  have tx35 : m_t h36 x35 = .inl 5 := by rw [eh36, ex35]; simp [m_t, m_new, m_n, va_up]
  refine e_dup (pc := 104) C dX9_init_104 rfl ?_
  obtain ⟨h37, y38, hf⟩ := ob_e hf
  refine e_callINv (pc := 105) (st := [.ref x35, .int (0 : Int32), .ref b34]) C (ct_X5_init y38) dX9_init_105 g268 g269 g153 g270 rfl hd_X5_init rfl ⟨Nat.le_of_ble_eq_true rfl, Nat.le_of_ble_eq_true rfl⟩ ⟨Nat.le_of_ble_eq_true rfl, Nat.le_of_ble_eq_true rfl⟩ rfl (Nat.le_of_ble_eq_true rfl) ?_
  obtain ⟨t39, hf⟩ := ck_e hf
  obtain ⟨q40, hf⟩ := ck_e hf
  obtain ⟨n41, tn41, in41⟩ := ix_e q40
  refine e_aast (pc := 108) (ci := 5) 4 (by decide) rfl C dX9_init_108 tn41 t39 in41 ?_
  obtain ⟨h42, eh42, hf⟩ := nn_e hf
  refine e_hp eh42 ?_
  have uh42 : m_t h42 = m_t h37 := by rw [eh42]; exact rfl
  refine e_iinc (pc := 109) (v := (1 : Int32)) (lv2 := [(1, .int (1 : Int32)), (0, .ref v0)]) C hm dX9_init_109 0 rfl (by decide) (by decide) rfl ?_
  refine e_goto (pc := 112) (tgt := 90) C dX9_init_112 (by decide) ?_
  refine e_iload_n (pc := 90) C dX9_init_90 0 rfl rfl ?_
  refine e_bipush (v := (8 : Int32)) (pc := 91) C dX9_init_91 (by decide) ?_
  refine e_icmp_ge (pc := 93) (tgt := 115) C dX9_init_93 (by decide) (fun q => absurd q (by decide)) (fun _ => ?_)
  refine e_aload_n (pc := 96) C dX9_init_96 1 rfl rfl ?_
  obtain ⟨t43, hf⟩ := ck_e hf
  refine e_getr (pc := 97) 9 6 C dX9_init_97 (by decide) (by decide) g339 rfl t43 ?_
  obtain ⟨b44, eb44, hf⟩ := ob_e hf
  refine e_rf eb44 ?_
  refine e_iload_n (pc := 100) C dX9_init_100 0 rfl rfl ?_
  refine e_new (pc := 101) (ci := 5) C dX9_init_101 (by decide) g265 g267 g153 (Nat.le_of_ble_eq_true rfl) (Nat.le_of_ble_eq_true rfl) ?_
  obtain ⟨x45, ex45, hf⟩ := nn_e hf
  refine e_topr ex45 ?_
  obtain ⟨h46, eh46, hf⟩ := nn_e hf
  refine e_hp eh46 ?_
  have tx45 : m_t h46 x45 = .inl 5 := by rw [eh46, ex45]; simp [m_t, m_new, m_n, va_up]
  refine e_dup (pc := 104) C dX9_init_104 rfl ?_
  obtain ⟨h47, y48, hf⟩ := ob_e hf
  refine e_callINv (pc := 105) (st := [.ref x45, .int (1 : Int32), .ref b44]) C (ct_X5_init y48) dX9_init_105 g268 g269 g153 g270 rfl hd_X5_init rfl ⟨Nat.le_of_ble_eq_true rfl, Nat.le_of_ble_eq_true rfl⟩ ⟨Nat.le_of_ble_eq_true rfl, Nat.le_of_ble_eq_true rfl⟩ rfl (Nat.le_of_ble_eq_true rfl) ?_
  obtain ⟨t49, hf⟩ := ck_e hf
  obtain ⟨q50, hf⟩ := ck_e hf
  obtain ⟨n51, tn51, in51⟩ := ix_e q50
  refine e_aast (pc := 108) (ci := 5) 4 (by decide) rfl C dX9_init_108 tn51 t49 in51 ?_
  obtain ⟨h52, eh52, hf⟩ := nn_e hf
  refine e_hp eh52 ?_
  have uh52 : m_t h52 = m_t h47 := by rw [eh52]; exact rfl
  refine e_iinc (pc := 109) (v := (2 : Int32)) (lv2 := [(1, .int (2 : Int32)), (0, .ref v0)]) C hm dX9_init_109 0 rfl (by decide) (by decide) rfl ?_
  refine e_goto (pc := 112) (tgt := 90) C dX9_init_112 (by decide) ?_
  refine e_iload_n (pc := 90) C dX9_init_90 0 rfl rfl ?_
  refine e_bipush (v := (8 : Int32)) (pc := 91) C dX9_init_91 (by decide) ?_
  refine e_icmp_ge (pc := 93) (tgt := 115) C dX9_init_93 (by decide) (fun q => absurd q (by decide)) (fun _ => ?_)
  refine e_aload_n (pc := 96) C dX9_init_96 1 rfl rfl ?_
  obtain ⟨t53, hf⟩ := ck_e hf
  refine e_getr (pc := 97) 9 6 C dX9_init_97 (by decide) (by decide) g339 rfl t53 ?_
  obtain ⟨b54, eb54, hf⟩ := ob_e hf
  refine e_rf eb54 ?_
  refine e_iload_n (pc := 100) C dX9_init_100 0 rfl rfl ?_
  refine e_new (pc := 101) (ci := 5) C dX9_init_101 (by decide) g265 g267 g153 (Nat.le_of_ble_eq_true rfl) (Nat.le_of_ble_eq_true rfl) ?_
  obtain ⟨x55, ex55, hf⟩ := nn_e hf
  refine e_topr ex55 ?_
  obtain ⟨h56, eh56, hf⟩ := nn_e hf
  refine e_hp eh56 ?_
  have tx55 : m_t h56 x55 = .inl 5 := by rw [eh56, ex55]; simp [m_t, m_new, m_n, va_up]
  refine e_dup (pc := 104) C dX9_init_104 rfl ?_
  obtain ⟨h57, y58, hf⟩ := ob_e hf
  refine e_callINv (pc := 105) (st := [.ref x55, .int (2 : Int32), .ref b54]) C (ct_X5_init y58) dX9_init_105 g268 g269 g153 g270 rfl hd_X5_init rfl ⟨Nat.le_of_ble_eq_true rfl, Nat.le_of_ble_eq_true rfl⟩ ⟨Nat.le_of_ble_eq_true rfl, Nat.le_of_ble_eq_true rfl⟩ rfl (Nat.le_of_ble_eq_true rfl) ?_
  obtain ⟨t59, hf⟩ := ck_e hf
  obtain ⟨q60, hf⟩ := ck_e hf
  obtain ⟨n61, tn61, in61⟩ := ix_e q60
  refine e_aast (pc := 108) (ci := 5) 4 (by decide) rfl C dX9_init_108 tn61 t59 in61 ?_
  obtain ⟨h62, eh62, hf⟩ := nn_e hf
  refine e_hp eh62 ?_
  have uh62 : m_t h62 = m_t h57 := by rw [eh62]; exact rfl
  refine e_iinc (pc := 109) (v := (3 : Int32)) (lv2 := [(1, .int (3 : Int32)), (0, .ref v0)]) C hm dX9_init_109 0 rfl (by decide) (by decide) rfl ?_
  refine e_goto (pc := 112) (tgt := 90) C dX9_init_112 (by decide) ?_
  refine e_iload_n (pc := 90) C dX9_init_90 0 rfl rfl ?_
  refine e_bipush (v := (8 : Int32)) (pc := 91) C dX9_init_91 (by decide) ?_
  refine e_icmp_ge (pc := 93) (tgt := 115) C dX9_init_93 (by decide) (fun q => absurd q (by decide)) (fun _ => ?_)
  refine e_aload_n (pc := 96) C dX9_init_96 1 rfl rfl ?_
  obtain ⟨t63, hf⟩ := ck_e hf
  refine e_getr (pc := 97) 9 6 C dX9_init_97 (by decide) (by decide) g339 rfl t63 ?_
  obtain ⟨b64, eb64, hf⟩ := ob_e hf
  refine e_rf eb64 ?_
  refine e_iload_n (pc := 100) C dX9_init_100 0 rfl rfl ?_
  refine e_new (pc := 101) (ci := 5) C dX9_init_101 (by decide) g265 g267 g153 (Nat.le_of_ble_eq_true rfl) (Nat.le_of_ble_eq_true rfl) ?_
  obtain ⟨x65, ex65, hf⟩ := nn_e hf
  refine e_topr ex65 ?_
  obtain ⟨h66, eh66, hf⟩ := nn_e hf
  refine e_hp eh66 ?_
  have tx65 : m_t h66 x65 = .inl 5 := by rw [eh66, ex65]; simp [m_t, m_new, m_n, va_up]
  refine e_dup (pc := 104) C dX9_init_104 rfl ?_
  obtain ⟨h67, y68, hf⟩ := ob_e hf
  refine e_callINv (pc := 105) (st := [.ref x65, .int (3 : Int32), .ref b64]) C (ct_X5_init y68) dX9_init_105 g268 g269 g153 g270 rfl hd_X5_init rfl ⟨Nat.le_of_ble_eq_true rfl, Nat.le_of_ble_eq_true rfl⟩ ⟨Nat.le_of_ble_eq_true rfl, Nat.le_of_ble_eq_true rfl⟩ rfl (Nat.le_of_ble_eq_true rfl) ?_
  obtain ⟨t69, hf⟩ := ck_e hf
  obtain ⟨q70, hf⟩ := ck_e hf
  obtain ⟨n71, tn71, in71⟩ := ix_e q70
  refine e_aast (pc := 108) (ci := 5) 4 (by decide) rfl C dX9_init_108 tn71 t69 in71 ?_
  obtain ⟨h72, eh72, hf⟩ := nn_e hf
  refine e_hp eh72 ?_
  have uh72 : m_t h72 = m_t h67 := by rw [eh72]; exact rfl
  refine e_iinc (pc := 109) (v := (4 : Int32)) (lv2 := [(1, .int (4 : Int32)), (0, .ref v0)]) C hm dX9_init_109 0 rfl (by decide) (by decide) rfl ?_
  refine e_goto (pc := 112) (tgt := 90) C dX9_init_112 (by decide) ?_
  refine e_iload_n (pc := 90) C dX9_init_90 0 rfl rfl ?_
  refine e_bipush (v := (8 : Int32)) (pc := 91) C dX9_init_91 (by decide) ?_
  refine e_icmp_ge (pc := 93) (tgt := 115) C dX9_init_93 (by decide) (fun q => absurd q (by decide)) (fun _ => ?_)
  refine e_aload_n (pc := 96) C dX9_init_96 1 rfl rfl ?_
  obtain ⟨t73, hf⟩ := ck_e hf
  refine e_getr (pc := 97) 9 6 C dX9_init_97 (by decide) (by decide) g339 rfl t73 ?_
  obtain ⟨b74, eb74, hf⟩ := ob_e hf
  refine e_rf eb74 ?_
  refine e_iload_n (pc := 100) C dX9_init_100 0 rfl rfl ?_
  refine e_new (pc := 101) (ci := 5) C dX9_init_101 (by decide) g265 g267 g153 (Nat.le_of_ble_eq_true rfl) (Nat.le_of_ble_eq_true rfl) ?_
  obtain ⟨x75, ex75, hf⟩ := nn_e hf
  refine e_topr ex75 ?_
  obtain ⟨h76, eh76, hf⟩ := nn_e hf
  refine e_hp eh76 ?_
  have tx75 : m_t h76 x75 = .inl 5 := by rw [eh76, ex75]; simp [m_t, m_new, m_n, va_up]
  refine e_dup (pc := 104) C dX9_init_104 rfl ?_
  obtain ⟨h77, y78, hf⟩ := ob_e hf
  refine e_callINv (pc := 105) (st := [.ref x75, .int (4 : Int32), .ref b74]) C (ct_X5_init y78) dX9_init_105 g268 g269 g153 g270 rfl hd_X5_init rfl ⟨Nat.le_of_ble_eq_true rfl, Nat.le_of_ble_eq_true rfl⟩ ⟨Nat.le_of_ble_eq_true rfl, Nat.le_of_ble_eq_true rfl⟩ rfl (Nat.le_of_ble_eq_true rfl) ?_
  obtain ⟨t79, hf⟩ := ck_e hf
  obtain ⟨q80, hf⟩ := ck_e hf
  obtain ⟨n81, tn81, in81⟩ := ix_e q80
  refine e_aast (pc := 108) (ci := 5) 4 (by decide) rfl C dX9_init_108 tn81 t79 in81 ?_
  obtain ⟨h82, eh82, hf⟩ := nn_e hf
  refine e_hp eh82 ?_
  have uh82 : m_t h82 = m_t h77 := by rw [eh82]; exact rfl
  refine e_iinc (pc := 109) (v := (5 : Int32)) (lv2 := [(1, .int (5 : Int32)), (0, .ref v0)]) C hm dX9_init_109 0 rfl (by decide) (by decide) rfl ?_
  refine e_goto (pc := 112) (tgt := 90) C dX9_init_112 (by decide) ?_
  refine e_iload_n (pc := 90) C dX9_init_90 0 rfl rfl ?_
  refine e_bipush (v := (8 : Int32)) (pc := 91) C dX9_init_91 (by decide) ?_
  refine e_icmp_ge (pc := 93) (tgt := 115) C dX9_init_93 (by decide) (fun q => absurd q (by decide)) (fun _ => ?_)
  refine e_aload_n (pc := 96) C dX9_init_96 1 rfl rfl ?_
  obtain ⟨t83, hf⟩ := ck_e hf
  refine e_getr (pc := 97) 9 6 C dX9_init_97 (by decide) (by decide) g339 rfl t83 ?_
  obtain ⟨b84, eb84, hf⟩ := ob_e hf
  refine e_rf eb84 ?_
  refine e_iload_n (pc := 100) C dX9_init_100 0 rfl rfl ?_
  refine e_new (pc := 101) (ci := 5) C dX9_init_101 (by decide) g265 g267 g153 (Nat.le_of_ble_eq_true rfl) (Nat.le_of_ble_eq_true rfl) ?_
  obtain ⟨x85, ex85, hf⟩ := nn_e hf
  refine e_topr ex85 ?_
  obtain ⟨h86, eh86, hf⟩ := nn_e hf
  refine e_hp eh86 ?_
  have tx85 : m_t h86 x85 = .inl 5 := by rw [eh86, ex85]; simp [m_t, m_new, m_n, va_up]
  refine e_dup (pc := 104) C dX9_init_104 rfl ?_
  obtain ⟨h87, y88, hf⟩ := ob_e hf
  refine e_callINv (pc := 105) (st := [.ref x85, .int (5 : Int32), .ref b84]) C (ct_X5_init y88) dX9_init_105 g268 g269 g153 g270 rfl hd_X5_init rfl ⟨Nat.le_of_ble_eq_true rfl, Nat.le_of_ble_eq_true rfl⟩ ⟨Nat.le_of_ble_eq_true rfl, Nat.le_of_ble_eq_true rfl⟩ rfl (Nat.le_of_ble_eq_true rfl) ?_
  obtain ⟨t89, hf⟩ := ck_e hf
  obtain ⟨q90, hf⟩ := ck_e hf
  obtain ⟨n91, tn91, in91⟩ := ix_e q90
  refine e_aast (pc := 108) (ci := 5) 4 (by decide) rfl C dX9_init_108 tn91 t89 in91 ?_
  obtain ⟨h92, eh92, hf⟩ := nn_e hf
  refine e_hp eh92 ?_
  have uh92 : m_t h92 = m_t h87 := by rw [eh92]; exact rfl
  refine e_iinc (pc := 109) (v := (6 : Int32)) (lv2 := [(1, .int (6 : Int32)), (0, .ref v0)]) C hm dX9_init_109 0 rfl (by decide) (by decide) rfl ?_
  refine e_goto (pc := 112) (tgt := 90) C dX9_init_112 (by decide) ?_
  refine e_iload_n (pc := 90) C dX9_init_90 0 rfl rfl ?_
  refine e_bipush (v := (8 : Int32)) (pc := 91) C dX9_init_91 (by decide) ?_
  refine e_icmp_ge (pc := 93) (tgt := 115) C dX9_init_93 (by decide) (fun q => absurd q (by decide)) (fun _ => ?_)
  refine e_aload_n (pc := 96) C dX9_init_96 1 rfl rfl ?_
  obtain ⟨t93, hf⟩ := ck_e hf
  refine e_getr (pc := 97) 9 6 C dX9_init_97 (by decide) (by decide) g339 rfl t93 ?_
  obtain ⟨b94, eb94, hf⟩ := ob_e hf
  refine e_rf eb94 ?_
  refine e_iload_n (pc := 100) C dX9_init_100 0 rfl rfl ?_
  refine e_new (pc := 101) (ci := 5) C dX9_init_101 (by decide) g265 g267 g153 (Nat.le_of_ble_eq_true rfl) (Nat.le_of_ble_eq_true rfl) ?_
  obtain ⟨x95, ex95, hf⟩ := nn_e hf
  refine e_topr ex95 ?_
  obtain ⟨h96, eh96, hf⟩ := nn_e hf
  refine e_hp eh96 ?_
  have tx95 : m_t h96 x95 = .inl 5 := by rw [eh96, ex95]; simp [m_t, m_new, m_n, va_up]
  refine e_dup (pc := 104) C dX9_init_104 rfl ?_
  obtain ⟨h97, y98, hf⟩ := ob_e hf
  refine e_callINv (pc := 105) (st := [.ref x95, .int (6 : Int32), .ref b94]) C (ct_X5_init y98) dX9_init_105 g268 g269 g153 g270 rfl hd_X5_init rfl ⟨Nat.le_of_ble_eq_true rfl, Nat.le_of_ble_eq_true rfl⟩ ⟨Nat.le_of_ble_eq_true rfl, Nat.le_of_ble_eq_true rfl⟩ rfl (Nat.le_of_ble_eq_true rfl) ?_
  obtain ⟨t99, hf⟩ := ck_e hf
  obtain ⟨q100, hf⟩ := ck_e hf
  obtain ⟨n101, tn101, in101⟩ := ix_e q100
  refine e_aast (pc := 108) (ci := 5) 4 (by decide) rfl C dX9_init_108 tn101 t99 in101 ?_
  obtain ⟨h102, eh102, hf⟩ := nn_e hf
  refine e_hp eh102 ?_
  have uh102 : m_t h102 = m_t h97 := by rw [eh102]; exact rfl
  refine e_iinc (pc := 109) (v := (7 : Int32)) (lv2 := [(1, .int (7 : Int32)), (0, .ref v0)]) C hm dX9_init_109 0 rfl (by decide) (by decide) rfl ?_
  refine e_goto (pc := 112) (tgt := 90) C dX9_init_112 (by decide) ?_
  refine e_iload_n (pc := 90) C dX9_init_90 0 rfl rfl ?_
  refine e_bipush (v := (8 : Int32)) (pc := 91) C dX9_init_91 (by decide) ?_
  refine e_icmp_ge (pc := 93) (tgt := 115) C dX9_init_93 (by decide) (fun q => absurd q (by decide)) (fun _ => ?_)
  refine e_aload_n (pc := 96) C dX9_init_96 1 rfl rfl ?_
  obtain ⟨t103, hf⟩ := ck_e hf
  refine e_getr (pc := 97) 9 6 C dX9_init_97 (by decide) (by decide) g339 rfl t103 ?_
  obtain ⟨b104, eb104, hf⟩ := ob_e hf
  refine e_rf eb104 ?_
  refine e_iload_n (pc := 100) C dX9_init_100 0 rfl rfl ?_
  refine e_new (pc := 101) (ci := 5) C dX9_init_101 (by decide) g265 g267 g153 (Nat.le_of_ble_eq_true rfl) (Nat.le_of_ble_eq_true rfl) ?_
  obtain ⟨x105, ex105, hf⟩ := nn_e hf
  refine e_topr ex105 ?_
  obtain ⟨h106, eh106, hf⟩ := nn_e hf
  refine e_hp eh106 ?_
  have tx105 : m_t h106 x105 = .inl 5 := by rw [eh106, ex105]; simp [m_t, m_new, m_n, va_up]
  refine e_dup (pc := 104) C dX9_init_104 rfl ?_
  obtain ⟨h107, y108, hf⟩ := ob_e hf
  refine e_callINv (pc := 105) (st := [.ref x105, .int (7 : Int32), .ref b104]) C (ct_X5_init y108) dX9_init_105 g268 g269 g153 g270 rfl hd_X5_init rfl ⟨Nat.le_of_ble_eq_true rfl, Nat.le_of_ble_eq_true rfl⟩ ⟨Nat.le_of_ble_eq_true rfl, Nat.le_of_ble_eq_true rfl⟩ rfl (Nat.le_of_ble_eq_true rfl) ?_
  obtain ⟨t109, hf⟩ := ck_e hf
  obtain ⟨q110, hf⟩ := ck_e hf
  obtain ⟨n111, tn111, in111⟩ := ix_e q110
  refine e_aast (pc := 108) (ci := 5) 4 (by decide) rfl C dX9_init_108 tn111 t109 in111 ?_
  obtain ⟨h112, eh112, hf⟩ := nn_e hf
  refine e_hp eh112 ?_
  have uh112 : m_t h112 = m_t h107 := by rw [eh112]; exact rfl
  refine e_iinc (pc := 109) (v := (8 : Int32)) (lv2 := [(1, .int (8 : Int32)), (0, .ref v0)]) C hm dX9_init_109 0 rfl (by decide) (by decide) rfl ?_
  refine e_goto (pc := 112) (tgt := 90) C dX9_init_112 (by decide) ?_
  refine e_iload_n (pc := 90) C dX9_init_90 0 rfl rfl ?_
  refine e_bipush (v := (8 : Int32)) (pc := 91) C dX9_init_91 (by decide) ?_
  refine e_icmp_ge (pc := 93) (tgt := 115) C dX9_init_93 (by decide) (fun _ => ?_) (fun q => absurd q (by decide))
  obtain rfl := so_e hf
  exact e_vret (pc := 115) C hr dX9_init_115 (Nat.le_of_ble_eq_true rfl) (Nat.le_of_ble_eq_true rfl)
theorem dX9_hasPerson_0 : decode cX9_hasPerson 0 = .ok (.iload_n 1, 1) := by decide +kernel
theorem dX9_hasPerson_1 : decode cX9_hasPerson 1 = .ok (.ifCond .lt 15, 3) := by decide +kernel
theorem dX9_hasPerson_4 : decode cX9_hasPerson 4 = .ok (.iload_n 1, 1) := by decide +kernel
theorem dX9_hasPerson_5 : decode cX9_hasPerson 5 = .ok (.aload_n 0, 1) := by decide +kernel
theorem dX9_hasPerson_6 : decode cX9_hasPerson 6 = .ok (.getfield 28, 3) := by decide +kernel
theorem dX9_hasPerson_9 : decode cX9_hasPerson 9 = .ok (.if_icmp .ge 7, 3) := by decide +kernel
theorem dX9_hasPerson_12 : decode cX9_hasPerson 12 = .ok (.iconst 1, 1) := by decide +kernel
theorem dX9_hasPerson_13 : decode cX9_hasPerson 13 = .ok (.goto 4, 3) := by decide +kernel
theorem dX9_hasPerson_16 : decode cX9_hasPerson 16 = .ok (.iconst 0, 1) := by decide +kernel
theorem dX9_hasPerson_17 : decode cX9_hasPerson 17 = .ok (.ireturn, 1) := by decide +kernel
noncomputable def f_X9_hasPerson (G : GG) (v0 : Nat) (v1 : Int32) (h : AH) : Option (Int32 × AH) :=
if v1 < 0 then (some ((0 : Int32), h)) else
ck (m_t h v0 = .inl 9) <|
if (m_i h v0 5) ≤ v1 then (some ((0 : Int32), h)) else
some ((1 : Int32), h)
set_option maxHeartbeats 4000000 in
set_option maxRecDepth 100000 in
theorem ct_X9_hasPerson {G : GG} {l : Launch} {v0 : Nat} {v1 : Int32} {h : AH} {y : Int32 × AH} (hf : f_X9_hasPerson G v0 v1 h = some y) : Ct G l yX9_hasPerson cX9_hasPerson 2 (some .boolean) 0 0 0 0 [.ref v0, .int v1] h (some (.int y.1), y.2) := by
  refine ct_of (by decide) (Nat.le_of_ble_eq_true rfl) ?_
  intro p e s m args below meth c C hm hr hin
  have C : Cx G cX9_hasPerson RX9 p s m args meth c := C
  refine e_lv (lv2 := [(0, .ref v0), (1, .int v1)]) [0, 1] rfl ?_
  unfold f_X9_hasPerson at hf
  refine e_iload_n (pc := 0) C dX9_hasPerson_0 1 rfl rfl ?_
  rcases it_e hf with ⟨c1, hf⟩ | ⟨c1, hf⟩
  · refine e_if_lt (pc := 1) (tgt := 16) C dX9_hasPerson_1 (by decide) (fun _ => ?_) (fun q => absurd c1 q)
    refine e_iconst (v := (0 : Int32)) (pc := 16) C dX9_hasPerson_16 (by decide) ?_
    obtain rfl := so_e hf
    exact e_zret (pc := 17) (v := (0 : Int32)) C hr (nz_ok (by decide)) dX9_hasPerson_17 (Nat.le_of_ble_eq_true rfl) (Nat.le_of_ble_eq_true rfl)
  · refine e_if_lt (pc := 1) (tgt := 16) C dX9_hasPerson_1 (by decide) (fun q => absurd q c1) (fun _ => ?_)
    refine e_iload_n (pc := 4) C dX9_hasPerson_4 1 rfl rfl ?_
    refine e_aload_n (pc := 5) C dX9_hasPerson_5 0 rfl rfl ?_
    obtain ⟨t2, hf⟩ := ck_e hf
    refine e_geti (pc := 6) 9 5 C dX9_hasPerson_6 (by decide) (by decide) g332 rfl t2 ?_
    rcases it_e hf with ⟨c3, hf⟩ | ⟨c3, hf⟩
    · refine e_icmp_ge (pc := 9) (tgt := 16) C dX9_hasPerson_9 (by decide) (fun _ => ?_) (fun q => absurd c3 q)
      refine e_iconst (v := (0 : Int32)) (pc := 16) C dX9_hasPerson_16 (by decide) ?_
      obtain rfl := so_e hf
      exact e_zret (pc := 17) (v := (0 : Int32)) C hr (nz_ok (by decide)) dX9_hasPerson_17 (Nat.le_of_ble_eq_true rfl) (Nat.le_of_ble_eq_true rfl)
    · refine e_icmp_ge (pc := 9) (tgt := 16) C dX9_hasPerson_9 (by decide) (fun q => absurd q c3) (fun _ => ?_)
      refine e_iconst (v := (1 : Int32)) (pc := 12) C dX9_hasPerson_12 (by decide) ?_
      refine e_goto (pc := 13) (tgt := 17) C dX9_hasPerson_13 (by decide) ?_
      obtain rfl := so_e hf
      exact e_zret (pc := 17) (v := (1 : Int32)) C hr (nz_ok (by decide)) dX9_hasPerson_17 (Nat.le_of_ble_eq_true rfl) (Nat.le_of_ble_eq_true rfl)
theorem dX9_isTunnel_0 : decode cX9_isTunnel 0 = .ok (.iconst 0, 1) := by decide +kernel
theorem dX9_isTunnel_1 : decode cX9_isTunnel 1 = .ok (.istore_n 2, 1) := by decide +kernel
theorem dX9_isTunnel_2 : decode cX9_isTunnel 2 = .ok (.iload_n 2, 1) := by decide +kernel
theorem dX9_isTunnel_3 : decode cX9_isTunnel 3 = .ok (.aload_n 0, 1) := by decide +kernel
theorem dX9_isTunnel_4 : decode cX9_isTunnel 4 = .ok (.getfield 37, 3) := by decide +kernel
theorem dX9_isTunnel_7 : decode cX9_isTunnel 7 = .ok (.if_icmp .ge 31, 3) := by decide +kernel
theorem dX9_isTunnel_10 : decode cX9_isTunnel 10 = .ok (.aload_n 0, 1) := by decide +kernel
theorem dX9_isTunnel_11 : decode cX9_isTunnel 11 = .ok (.getfield 40, 3) := by decide +kernel
theorem dX9_isTunnel_14 : decode cX9_isTunnel 14 = .ok (.iload_n 2, 1) := by decide +kernel
theorem dX9_isTunnel_15 : decode cX9_isTunnel 15 = .ok (.iaload, 1) := by decide +kernel
theorem dX9_isTunnel_16 : decode cX9_isTunnel 16 = .ok (.iload_n 1, 1) := by decide +kernel
theorem dX9_isTunnel_17 : decode cX9_isTunnel 17 = .ok (.if_icmp .gt 15, 3) := by decide +kernel
theorem dX9_isTunnel_20 : decode cX9_isTunnel 20 = .ok (.iload_n 1, 1) := by decide +kernel
theorem dX9_isTunnel_21 : decode cX9_isTunnel 21 = .ok (.aload_n 0, 1) := by decide +kernel
theorem dX9_isTunnel_22 : decode cX9_isTunnel 22 = .ok (.getfield 44, 3) := by decide +kernel
theorem dX9_isTunnel_25 : decode cX9_isTunnel 25 = .ok (.iload_n 2, 1) := by decide +kernel
theorem dX9_isTunnel_26 : decode cX9_isTunnel 26 = .ok (.iaload, 1) := by decide +kernel
theorem dX9_isTunnel_27 : decode cX9_isTunnel 27 = .ok (.if_icmp .gt 5, 3) := by decide +kernel
theorem dX9_isTunnel_30 : decode cX9_isTunnel 30 = .ok (.iconst 1, 1) := by decide +kernel
theorem dX9_isTunnel_31 : decode cX9_isTunnel 31 = .ok (.ireturn, 1) := by decide +kernel
theorem dX9_isTunnel_32 : decode cX9_isTunnel 32 = .ok (.iinc 2 1, 3) := by decide +kernel
theorem dX9_isTunnel_35 : decode cX9_isTunnel 35 = .ok (.goto (-33), 3) := by decide +kernel
theorem dX9_isTunnel_38 : decode cX9_isTunnel 38 = .ok (.iconst 0, 1) := by decide +kernel
theorem dX9_isTunnel_39 : decode cX9_isTunnel 39 = .ok (.ireturn, 1) := by decide +kernel
noncomputable def F_X9_isTunnel_2 (G : GG) (v0 : Nat) (v1 : Int32) (self_2 : Int32 → AH → Option (Int32 × AH)) (v2 : Int32) (h : AH) : Option (Int32 × AH) :=
ck (m_t h v0 = .inl 9) <|
if (m_i h v0 7) ≤ v2 then (some ((0 : Int32), h)) else
ob (m_r h v0 8) fun b3 =>
ck (ixb h b3 .int v2 = true) <|
nn (fun (uu_32 : Unit) => (nn (v2 + (1 : Int32)) fun x6 =>
self_2 x6 h)) fun j_32 =>
if v1 < (m_i h b3 v2.toNatClampNeg) then (j_32 ()) else
ob (m_r h v0 9) fun b8 =>
ck (ixb h b8 .int v2 = true) <|
if (m_i h b8 v2.toNatClampNeg) < v1 then (j_32 ()) else
some ((1 : Int32), h)
noncomputable def f_X9_isTunnel (G : GG) (v0 : Nat) (v1 : Int32) (h : AH) : Option (Int32 × AH) :=
lq1 (F_X9_isTunnel_2 G v0 v1 ) bN (0 : Int32) h
set_option maxHeartbeats 4000000 in
set_option maxRecDepth 100000 in
theorem el_X9_isTunnel_2 {G : GG} {p : Program} {l : Launch} {e : Env} {s : State} {m : MethodId} {args : Array Value} {below : List Frame} {meth : Method} {c : Code} {y : Int32 × AH} (C : Cx G cX9_isTunnel RX9 p s m args meth c) (hm : c.maxLocals = 3) (hr : meth.sig.returnType = (some .boolean)) (hin : meth.name = yX9_isTunnel.name) {v0 : Nat} {v1 : Int32}  :
    ∀ (n : Nat) (v2 : Int32) (h : AH), lq1 (F_X9_isTunnel_2 G v0 v1) n v2 h = some y → EE G p l e ({ frames := 0, cells := 0, slots := 0, locals := 0 } : Room) s m args below meth c (some (.int y.1), y.2) 0 0 2 [(0, .ref v0), (1, .int v1), (2, .int v2)] [] h 0 0 := by
  intro n
  induction n with
  | zero => intro v2 h hf; exact (no_e hf).elim
  | succ n ih_2 =>
    intro v2 h hf
    have hf : F_X9_isTunnel_2 G v0 v1 (lq1 (F_X9_isTunnel_2 G v0 v1) n) v2 h = some y := hf
    generalize lq1 (F_X9_isTunnel_2 G v0 v1) n = self_2 at hf ih_2
    unfold F_X9_isTunnel_2 at hf
    refine e_iload_n (pc := 2) C dX9_isTunnel_2 2 rfl rfl ?_
    refine e_aload_n (pc := 3) C dX9_isTunnel_3 0 rfl rfl ?_
    obtain ⟨t1, hf⟩ := ck_e hf
    refine e_geti (pc := 4) 9 7 C dX9_isTunnel_4 (by decide) (by decide) g344 rfl t1 ?_
    rcases it_e hf with ⟨c2, hf⟩ | ⟨c2, hf⟩
    · refine e_icmp_ge (pc := 7) (tgt := 38) C dX9_isTunnel_7 (by decide) (fun _ => ?_) (fun q => absurd c2 q)
      refine e_iconst (v := (0 : Int32)) (pc := 38) C dX9_isTunnel_38 (by decide) ?_
      obtain rfl := so_e hf
      exact e_zret (pc := 39) (v := (0 : Int32)) C hr (nz_ok (by decide)) dX9_isTunnel_39 (Nat.le_of_ble_eq_true rfl) (Nat.le_of_ble_eq_true rfl)
    · refine e_icmp_ge (pc := 7) (tgt := 38) C dX9_isTunnel_7 (by decide) (fun q => absurd q c2) (fun _ => ?_)
      refine e_aload_n (pc := 10) C dX9_isTunnel_10 0 rfl rfl ?_
      refine e_getr (pc := 11) 9 8 C dX9_isTunnel_11 (by decide) (by decide) g347 rfl t1 ?_
      obtain ⟨b3, eb3, hf⟩ := ob_e hf
      refine e_rf eb3 ?_
      refine e_iload_n (pc := 14) C dX9_isTunnel_14 2 rfl rfl ?_
      obtain ⟨q4, hf⟩ := ck_e hf
      obtain ⟨n5, tn5, in5⟩ := ix_e q4
      refine e_iald (pc := 15) C dX9_isTunnel_15 tn5 in5 ?_
      refine e_iload_n (pc := 16) C dX9_isTunnel_16 1 rfl rfl ?_
      obtain ⟨j_32, ej_32, hf⟩ := nn_e hf
      have W_32 : ∀ (uu_32 : Unit), j_32 uu_32 = some y → EE G p l e ({ frames := 0, cells := 0, slots := 0, locals := 0 } : Room) s m args below meth c (some (.int y.1), y.2) 0 0 32 [(0, .ref v0), (1, .int v1), (2, .int v2)] [] h 0 0 := by
        intro uu_32 hf
        rw [ej_32] at hf
        obtain ⟨x6, ex6, hf⟩ := nn_e hf
        refine e_iinc (pc := 32) (v := x6) (lv2 := [(2, .int x6), (0, .ref v0), (1, .int v1)]) C hm dX9_isTunnel_32 2 rfl (by rw [ex6]; rfl) (by decide) rfl ?_
        refine e_goto (pc := 35) (tgt := 2) C dX9_isTunnel_35 (by decide) ?_
        refine e_lv (lv2 := [(0, .ref v0), (1, .int v1), (2, .int x6)]) [1, 2, 0] rfl ?_
        exact ih_2 x6 h hf
      rcases it_e hf with ⟨c7, hf⟩ | ⟨c7, hf⟩
      · refine e_icmp_gt (pc := 17) (tgt := 32) C dX9_isTunnel_17 (by decide) (fun _ => ?_) (fun q => absurd c7 q)
        exact W_32 () hf
      · refine e_icmp_gt (pc := 17) (tgt := 32) C dX9_isTunnel_17 (by decide) (fun q => absurd q c7) (fun _ => ?_)
        refine e_iload_n (pc := 20) C dX9_isTunnel_20 1 rfl rfl ?_
        refine e_aload_n (pc := 21) C dX9_isTunnel_21 0 rfl rfl ?_
        refine e_getr (pc := 22) 9 9 C dX9_isTunnel_22 (by decide) (by decide) g349 rfl t1 ?_
        obtain ⟨b8, eb8, hf⟩ := ob_e hf
        refine e_rf eb8 ?_
        refine e_iload_n (pc := 25) C dX9_isTunnel_25 2 rfl rfl ?_
        obtain ⟨q9, hf⟩ := ck_e hf
        obtain ⟨n10, tn10, in10⟩ := ix_e q9
        refine e_iald (pc := 26) C dX9_isTunnel_26 tn10 in10 ?_
        rcases it_e hf with ⟨c11, hf⟩ | ⟨c11, hf⟩
        · refine e_icmp_gt (pc := 27) (tgt := 32) C dX9_isTunnel_27 (by decide) (fun _ => ?_) (fun q => absurd c11 q)
          exact W_32 () hf
        · refine e_icmp_gt (pc := 27) (tgt := 32) C dX9_isTunnel_27 (by decide) (fun q => absurd q c11) (fun _ => ?_)
          refine e_iconst (v := (1 : Int32)) (pc := 30) C dX9_isTunnel_30 (by decide) ?_
          obtain rfl := so_e hf
          exact e_zret (pc := 31) (v := (1 : Int32)) C hr (nz_ok (by decide)) dX9_isTunnel_31 (Nat.le_of_ble_eq_true rfl) (Nat.le_of_ble_eq_true rfl)
set_option maxHeartbeats 4000000 in
set_option maxRecDepth 100000 in
theorem ct_X9_isTunnel {G : GG} {l : Launch} {v0 : Nat} {v1 : Int32} {h : AH} {y : Int32 × AH} (hf : f_X9_isTunnel G v0 v1 h = some y) : Ct G l yX9_isTunnel cX9_isTunnel 3 (some .boolean) 0 0 0 0 [.ref v0, .int v1] h (some (.int y.1), y.2) := by
  refine ct_of (by decide) (Nat.le_of_ble_eq_true rfl) ?_
  intro p e s m args below meth c C hm hr hin
  have C : Cx G cX9_isTunnel RX9 p s m args meth c := C
  refine e_lv (lv2 := [(0, .ref v0), (1, .int v1)]) [0, 1] rfl ?_
  unfold f_X9_isTunnel at hf
  refine e_iconst (v := (0 : Int32)) (pc := 0) C dX9_isTunnel_0 (by decide) ?_
  refine e_istore_n (pc := 1) (lv2 := [(2, .int (0 : Int32)), (0, .ref v0), (1, .int v1)]) C hm dX9_isTunnel_1 rfl (by decide) rfl ?_
  refine e_lv (lv2 := [(0, .ref v0), (1, .int v1), (2, .int (0 : Int32))]) [1, 2, 0] rfl ?_
  exact el_X9_isTunnel_2 C hm hr hin bN (0 : Int32) h hf
theorem dX9_milesToTunnel_0 : decode cX9_milesToTunnel 0 = .ok (.sipush 240, 3) := by decide +kernel
theorem dX9_milesToTunnel_3 : decode cX9_milesToTunnel 3 = .ok (.istore_n 2, 1) := by decide +kernel
theorem dX9_milesToTunnel_4 : decode cX9_milesToTunnel 4 = .ok (.iconst 0, 1) := by decide +kernel
theorem dX9_milesToTunnel_5 : decode cX9_milesToTunnel 5 = .ok (.istore_n 3, 1) := by decide +kernel
theorem dX9_milesToTunnel_6 : decode cX9_milesToTunnel 6 = .ok (.iload_n 3, 1) := by decide +kernel
theorem dX9_milesToTunnel_7 : decode cX9_milesToTunnel 7 = .ok (.aload_n 0, 1) := by decide +kernel
theorem dX9_milesToTunnel_8 : decode cX9_milesToTunnel 8 = .ok (.getfield 37, 3) := by decide +kernel
theorem dX9_milesToTunnel_11 : decode cX9_milesToTunnel 11 = .ok (.if_icmp .ge 30, 3) := by decide +kernel
theorem dX9_milesToTunnel_14 : decode cX9_milesToTunnel 14 = .ok (.aload_n 0, 1) := by decide +kernel
theorem dX9_milesToTunnel_15 : decode cX9_milesToTunnel 15 = .ok (.getfield 40, 3) := by decide +kernel
theorem dX9_milesToTunnel_18 : decode cX9_milesToTunnel 18 = .ok (.iload_n 3, 1) := by decide +kernel
theorem dX9_milesToTunnel_19 : decode cX9_milesToTunnel 19 = .ok (.iaload, 1) := by decide +kernel
theorem dX9_milesToTunnel_20 : decode cX9_milesToTunnel 20 = .ok (.iload_n 1, 1) := by decide +kernel
theorem dX9_milesToTunnel_21 : decode cX9_milesToTunnel 21 = .ok (.if_icmp .le 14, 3) := by decide +kernel
theorem dX9_milesToTunnel_24 : decode cX9_milesToTunnel 24 = .ok (.iload_n 2, 1) := by decide +kernel
theorem dX9_milesToTunnel_25 : decode cX9_milesToTunnel 25 = .ok (.aload_n 0, 1) := by decide +kernel
theorem dX9_milesToTunnel_26 : decode cX9_milesToTunnel 26 = .ok (.getfield 40, 3) := by decide +kernel
theorem dX9_milesToTunnel_29 : decode cX9_milesToTunnel 29 = .ok (.iload_n 3, 1) := by decide +kernel
theorem dX9_milesToTunnel_30 : decode cX9_milesToTunnel 30 = .ok (.iaload, 1) := by decide +kernel
theorem dX9_milesToTunnel_31 : decode cX9_milesToTunnel 31 = .ok (.invokestatic 60, 3) := by decide +kernel
theorem dX9_milesToTunnel_34 : decode cX9_milesToTunnel 34 = .ok (.istore_n 2, 1) := by decide +kernel
theorem dX9_milesToTunnel_35 : decode cX9_milesToTunnel 35 = .ok (.iinc 3 1, 3) := by decide +kernel
theorem dX9_milesToTunnel_38 : decode cX9_milesToTunnel 38 = .ok (.goto (-32), 3) := by decide +kernel
theorem dX9_milesToTunnel_41 : decode cX9_milesToTunnel 41 = .ok (.iload_n 2, 1) := by decide +kernel
theorem dX9_milesToTunnel_42 : decode cX9_milesToTunnel 42 = .ok (.sipush 240, 3) := by decide +kernel
theorem dX9_milesToTunnel_45 : decode cX9_milesToTunnel 45 = .ok (.if_icmp .ne 8, 3) := by decide +kernel
theorem dX9_milesToTunnel_48 : decode cX9_milesToTunnel 48 = .ok (.bipush 99, 2) := by decide +kernel
theorem dX9_milesToTunnel_50 : decode cX9_milesToTunnel 50 = .ok (.goto 6, 3) := by decide +kernel
theorem dX9_milesToTunnel_53 : decode cX9_milesToTunnel 53 = .ok (.iload_n 2, 1) := by decide +kernel
theorem dX9_milesToTunnel_54 : decode cX9_milesToTunnel 54 = .ok (.iload_n 1, 1) := by decide +kernel
theorem dX9_milesToTunnel_55 : decode cX9_milesToTunnel 55 = .ok (.isub, 1) := by decide +kernel
theorem dX9_milesToTunnel_56 : decode cX9_milesToTunnel 56 = .ok (.ireturn, 1) := by decide +kernel
noncomputable def F_X9_milesToTunnel_6 (G : GG) (v0 : Nat) (v1 : Int32) (K_41 : Int32 → AH → Option (Int32 × AH)) (self_6 : Int32 → Int32 → AH → Option (Int32 × AH)) (v2 : Int32) (v3 : Int32) (h : AH) : Option (Int32 × AH) :=
ck (m_t h v0 = .inl 9) <|
if (m_i h v0 7) ≤ v3 then (K_41 v2 h) else
ob (m_r h v0 8) fun b3 =>
ck (ixb h b3 .int v3 = true) <|
nn (fun (v2_35 : Int32) (h_35 : AH) => (nn (v3 + (1 : Int32)) fun x6 =>
self_6 v2_35 x6 h_35)) fun j_35 =>
if (m_i h b3 v3.toNatClampNeg) ≤ v1 then (j_35 v2 h) else
ob (m_r h v0 8) fun b8 =>
ck (ixb h b8 .int v3 = true) <|
nn (m_i h b8 v3.toNatClampNeg) fun x11 =>
nn (if x11 < v2 then x11 else v2) fun x12 =>
j_35 x12 h
noncomputable def f_X9_milesToTunnel (G : GG) (v0 : Nat) (v1 : Int32) (h : AH) : Option (Int32 × AH) :=
lq2 (F_X9_milesToTunnel_6 G v0 v1 (fun (v2_41 : Int32) (h_41 : AH) => (if v2_41 = (240 : Int32) then (some ((99 : Int32), h_41)) else
some (v2_41 - v1, h_41)))) bN (240 : Int32) (0 : Int32) h
set_option maxHeartbeats 4000000 in
set_option maxRecDepth 100000 in
theorem el_X9_milesToTunnel_6 {G : GG} {p : Program} {l : Launch} {e : Env} {s : State} {m : MethodId} {args : Array Value} {below : List Frame} {meth : Method} {c : Code} {y : Int32 × AH} (C : Cx G cX9_milesToTunnel RX9 p s m args meth c) (hm : c.maxLocals = 4) (hr : meth.sig.returnType = (some .int)) (hin : meth.name = yX9_milesToTunnel.name) {v0 : Nat} {v1 : Int32} {K_41 : Int32 → AH → Option (Int32 × AH)} (hK_41 : ∀ (u2 : Int32) (h : AH), K_41 u2 h = some y → EE G p l e ({ frames := 1, cells := 0, slots := 0, locals := 24 } : Room) s m args below meth c (some (.int y.1), y.2) 0 0 41 [(1, .int v1), (2, .int u2)] [] h 0 0) :
    ∀ (n : Nat) (v2 : Int32) (v3 : Int32) (h : AH), lq2 (F_X9_milesToTunnel_6 G v0 v1 K_41) n v2 v3 h = some y → EE G p l e ({ frames := 1, cells := 0, slots := 0, locals := 24 } : Room) s m args below meth c (some (.int y.1), y.2) 0 0 6 [(0, .ref v0), (1, .int v1), (2, .int v2), (3, .int v3)] [] h 0 0 := by
  intro n
  induction n with
  | zero => intro v2 v3 h hf; exact (no_e hf).elim
  | succ n ih_6 =>
    intro v2 v3 h hf
    have hf : F_X9_milesToTunnel_6 G v0 v1 K_41 (lq2 (F_X9_milesToTunnel_6 G v0 v1 K_41) n) v2 v3 h = some y := hf
    generalize lq2 (F_X9_milesToTunnel_6 G v0 v1 K_41) n = self_6 at hf ih_6
    unfold F_X9_milesToTunnel_6 at hf
    refine e_iload_n (pc := 6) C dX9_milesToTunnel_6 3 rfl rfl ?_
    refine e_aload_n (pc := 7) C dX9_milesToTunnel_7 0 rfl rfl ?_
    obtain ⟨t1, hf⟩ := ck_e hf
    refine e_geti (pc := 8) 9 7 C dX9_milesToTunnel_8 (by decide) (by decide) g344 rfl t1 ?_
    rcases it_e hf with ⟨c2, hf⟩ | ⟨c2, hf⟩
    · refine e_icmp_ge (pc := 11) (tgt := 41) C dX9_milesToTunnel_11 (by decide) (fun _ => ?_) (fun q => absurd c2 q)
      refine e_lv (lv2 := [(1, .int v1), (2, .int v2)]) [1, 2] rfl ?_
      exact hK_41 v2 h hf
    · refine e_icmp_ge (pc := 11) (tgt := 41) C dX9_milesToTunnel_11 (by decide) (fun q => absurd q c2) (fun _ => ?_)
      refine e_aload_n (pc := 14) C dX9_milesToTunnel_14 0 rfl rfl ?_
      refine e_getr (pc := 15) 9 8 C dX9_milesToTunnel_15 (by decide) (by decide) g347 rfl t1 ?_
      obtain ⟨b3, eb3, hf⟩ := ob_e hf
      refine e_rf eb3 ?_
      refine e_iload_n (pc := 18) C dX9_milesToTunnel_18 3 rfl rfl ?_
      obtain ⟨q4, hf⟩ := ck_e hf
      obtain ⟨n5, tn5, in5⟩ := ix_e q4
      refine e_iald (pc := 19) C dX9_milesToTunnel_19 tn5 in5 ?_
      refine e_iload_n (pc := 20) C dX9_milesToTunnel_20 1 rfl rfl ?_
      obtain ⟨j_35, ej_35, hf⟩ := nn_e hf
      have W_35 : ∀ (v2_35 : Int32) (h_35 : AH), j_35 v2_35 h_35 = some y → EE G p l e ({ frames := 1, cells := 0, slots := 0, locals := 24 } : Room) s m args below meth c (some (.int y.1), y.2) 0 0 35 [(0, .ref v0), (1, .int v1), (2, .int v2_35), (3, .int v3)] [] h_35 0 0 := by
        intro v2_35 h_35 hf
        rw [ej_35] at hf
        obtain ⟨x6, ex6, hf⟩ := nn_e hf
        refine e_iinc (pc := 35) (v := x6) (lv2 := [(3, .int x6), (0, .ref v0), (1, .int v1), (2, .int v2_35)]) C hm dX9_milesToTunnel_35 3 rfl (by rw [ex6]; rfl) (by decide) rfl ?_
        refine e_goto (pc := 38) (tgt := 6) C dX9_milesToTunnel_38 (by decide) ?_
        refine e_lv (lv2 := [(0, .ref v0), (1, .int v1), (2, .int v2_35), (3, .int x6)]) [1, 2, 3, 0] rfl ?_
        exact ih_6 v2_35 x6 h_35 hf
      rcases it_e hf with ⟨c7, hf⟩ | ⟨c7, hf⟩
      · refine e_icmp_le (pc := 21) (tgt := 35) C dX9_milesToTunnel_21 (by decide) (fun _ => ?_) (fun q => absurd c7 q)
        exact W_35 v2 h hf
      · refine e_icmp_le (pc := 21) (tgt := 35) C dX9_milesToTunnel_21 (by decide) (fun q => absurd q c7) (fun _ => ?_)
        refine e_iload_n (pc := 24) C dX9_milesToTunnel_24 2 rfl rfl ?_
        refine e_aload_n (pc := 25) C dX9_milesToTunnel_25 0 rfl rfl ?_
        refine e_getr (pc := 26) 9 8 C dX9_milesToTunnel_26 (by decide) (by decide) g347 rfl t1 ?_
        obtain ⟨b8, eb8, hf⟩ := ob_e hf
        refine e_rf eb8 ?_
        refine e_iload_n (pc := 29) C dX9_milesToTunnel_29 3 rfl rfl ?_
        obtain ⟨q9, hf⟩ := ck_e hf
        obtain ⟨n10, tn10, in10⟩ := ix_e q9
        refine e_iald (pc := 30) C dX9_milesToTunnel_30 tn10 in10 ?_
        obtain ⟨x11, ex11, hf⟩ := nn_e hf
        refine e_topi ex11 ?_
        refine e_mmin (pc := 31) C dX9_milesToTunnel_31 g1026 g863 g164 g864 (Nat.le_of_ble_eq_true rfl) (Nat.le_of_ble_eq_true rfl) (Nat.le_of_ble_eq_true rfl) (Nat.le_of_ble_eq_true rfl) ?_
        obtain ⟨x12, ex12, hf⟩ := nn_e hf
        refine e_topi ex12 ?_
        refine e_istore_n (pc := 34) (lv2 := [(2, .int x12), (0, .ref v0), (1, .int v1), (3, .int v3)]) C hm dX9_milesToTunnel_34 rfl (by decide) rfl ?_
        refine e_lv (lv2 := [(0, .ref v0), (1, .int v1), (2, .int x12), (3, .int v3)]) [1, 2, 0, 3] rfl ?_
        exact W_35 x12 h hf
set_option maxHeartbeats 4000000 in
set_option maxRecDepth 100000 in
theorem ct_X9_milesToTunnel {G : GG} {l : Launch} {v0 : Nat} {v1 : Int32} {h : AH} {y : Int32 × AH} (hf : f_X9_milesToTunnel G v0 v1 h = some y) : Ct G l yX9_milesToTunnel cX9_milesToTunnel 4 (some .int) 1 24 0 0 [.ref v0, .int v1] h (some (.int y.1), y.2) := by
  refine ct_of (by decide) (Nat.le_of_ble_eq_true rfl) ?_
  intro p e s m args below meth c C hm hr hin
  have C : Cx G cX9_milesToTunnel RX9 p s m args meth c := C
  refine e_lv (lv2 := [(0, .ref v0), (1, .int v1)]) [0, 1] rfl ?_
  unfold f_X9_milesToTunnel at hf
  refine e_sipush (v := (240 : Int32)) (pc := 0) C dX9_milesToTunnel_0 (by decide) ?_
  refine e_istore_n (pc := 3) (lv2 := [(2, .int (240 : Int32)), (0, .ref v0), (1, .int v1)]) C hm dX9_milesToTunnel_3 rfl (by decide) rfl ?_
  refine e_iconst (v := (0 : Int32)) (pc := 4) C dX9_milesToTunnel_4 (by decide) ?_
  refine e_istore_n (pc := 5) (lv2 := [(3, .int (0 : Int32)), (2, .int (240 : Int32)), (0, .ref v0), (1, .int v1)]) C hm dX9_milesToTunnel_5 rfl (by decide) rfl ?_
  refine e_lv (lv2 := [(0, .ref v0), (1, .int v1), (2, .int (240 : Int32)), (3, .int (0 : Int32))]) [2, 3, 1, 0] rfl ?_
  refine el_X9_milesToTunnel_6 C hm hr hin (fun v2_41 h_41 hf => ?_) bN (240 : Int32) (0 : Int32) h hf
  refine e_iload_n (pc := 41) C dX9_milesToTunnel_41 1 rfl rfl ?_
  refine e_sipush (v := (240 : Int32)) (pc := 42) C dX9_milesToTunnel_42 (by decide) ?_
  rcases it_e hf with ⟨c13, hf⟩ | ⟨c13, hf⟩
  · refine e_icmp_ne (pc := 45) (tgt := 53) C dX9_milesToTunnel_45 (by decide) (fun q => absurd c13 q) (fun _ => ?_)
    refine e_bipush (v := (99 : Int32)) (pc := 48) C dX9_milesToTunnel_48 (by decide) ?_
    refine e_goto (pc := 50) (tgt := 56) C dX9_milesToTunnel_50 (by decide) ?_
    obtain rfl := so_e hf
    exact e_iret (pc := 56) C hr dX9_milesToTunnel_56 (Nat.le_of_ble_eq_true rfl) (Nat.le_of_ble_eq_true rfl)
  · refine e_icmp_ne (pc := 45) (tgt := 53) C dX9_milesToTunnel_45 (by decide) (fun _ => ?_) (fun q => absurd q c13)
    refine e_iload_n (pc := 53) C dX9_milesToTunnel_53 1 rfl rfl ?_
    refine e_iload_n (pc := 54) C dX9_milesToTunnel_54 0 rfl rfl ?_
    refine e_isub (pc := 55) C dX9_milesToTunnel_55 ?_
    obtain rfl := so_e hf
    exact e_iret (pc := 56) C hr dX9_milesToTunnel_56 (Nat.le_of_ble_eq_true rfl) (Nat.le_of_ble_eq_true rfl)
theorem dX9_coldAt_0 : decode cX9_coldAt 0 = .ok (.iconst 0, 1) := by decide +kernel
theorem dX9_coldAt_1 : decode cX9_coldAt 1 = .ok (.istore_n 2, 1) := by decide +kernel
theorem dX9_coldAt_2 : decode cX9_coldAt 2 = .ok (.iconst 0, 1) := by decide +kernel
theorem dX9_coldAt_3 : decode cX9_coldAt 3 = .ok (.istore_n 3, 1) := by decide +kernel
theorem dX9_coldAt_4 : decode cX9_coldAt 4 = .ok (.iload_n 3, 1) := by decide +kernel
theorem dX9_coldAt_5 : decode cX9_coldAt 5 = .ok (.aload_n 0, 1) := by decide +kernel
theorem dX9_coldAt_6 : decode cX9_coldAt 6 = .ok (.getfield 47, 3) := by decide +kernel
theorem dX9_coldAt_9 : decode cX9_coldAt 9 = .ok (.if_icmp .ge 38, 3) := by decide +kernel
theorem dX9_coldAt_12 : decode cX9_coldAt 12 = .ok (.aload_n 0, 1) := by decide +kernel
theorem dX9_coldAt_13 : decode cX9_coldAt 13 = .ok (.getfield 50, 3) := by decide +kernel
theorem dX9_coldAt_16 : decode cX9_coldAt 16 = .ok (.iload_n 3, 1) := by decide +kernel
theorem dX9_coldAt_17 : decode cX9_coldAt 17 = .ok (.iaload, 1) := by decide +kernel
theorem dX9_coldAt_18 : decode cX9_coldAt 18 = .ok (.iload_n 1, 1) := by decide +kernel
theorem dX9_coldAt_19 : decode cX9_coldAt 19 = .ok (.if_icmp .gt 22, 3) := by decide +kernel
theorem dX9_coldAt_22 : decode cX9_coldAt 22 = .ok (.iload_n 1, 1) := by decide +kernel
theorem dX9_coldAt_23 : decode cX9_coldAt 23 = .ok (.aload_n 0, 1) := by decide +kernel
theorem dX9_coldAt_24 : decode cX9_coldAt 24 = .ok (.getfield 53, 3) := by decide +kernel
theorem dX9_coldAt_27 : decode cX9_coldAt 27 = .ok (.iload_n 3, 1) := by decide +kernel
theorem dX9_coldAt_28 : decode cX9_coldAt 28 = .ok (.iaload, 1) := by decide +kernel
theorem dX9_coldAt_29 : decode cX9_coldAt 29 = .ok (.if_icmp .gt 12, 3) := by decide +kernel
theorem dX9_coldAt_32 : decode cX9_coldAt 32 = .ok (.iload_n 2, 1) := by decide +kernel
theorem dX9_coldAt_33 : decode cX9_coldAt 33 = .ok (.aload_n 0, 1) := by decide +kernel
theorem dX9_coldAt_34 : decode cX9_coldAt 34 = .ok (.getfield 56, 3) := by decide +kernel
theorem dX9_coldAt_37 : decode cX9_coldAt 37 = .ok (.iload_n 3, 1) := by decide +kernel
theorem dX9_coldAt_38 : decode cX9_coldAt 38 = .ok (.iaload, 1) := by decide +kernel
theorem dX9_coldAt_39 : decode cX9_coldAt 39 = .ok (.iadd, 1) := by decide +kernel
theorem dX9_coldAt_40 : decode cX9_coldAt 40 = .ok (.istore_n 2, 1) := by decide +kernel
theorem dX9_coldAt_41 : decode cX9_coldAt 41 = .ok (.iinc 3 1, 3) := by decide +kernel
theorem dX9_coldAt_44 : decode cX9_coldAt 44 = .ok (.goto (-40), 3) := by decide +kernel
theorem dX9_coldAt_47 : decode cX9_coldAt 47 = .ok (.iload_n 2, 1) := by decide +kernel
theorem dX9_coldAt_48 : decode cX9_coldAt 48 = .ok (.ireturn, 1) := by decide +kernel
noncomputable def F_X9_coldAt_4 (G : GG) (v0 : Nat) (v1 : Int32) (self_4 : Int32 → Int32 → AH → Option (Int32 × AH)) (v2 : Int32) (v3 : Int32) (h : AH) : Option (Int32 × AH) :=
ck (m_t h v0 = .inl 9) <|
if (m_i h v0 10) ≤ v3 then (some (v2, h)) else
ob (m_r h v0 11) fun b3 =>
ck (ixb h b3 .int v3 = true) <|
nn (fun (v2_41 : Int32) => (nn (v3 + (1 : Int32)) fun x6 =>
self_4 v2_41 x6 h)) fun j_41 =>
if v1 < (m_i h b3 v3.toNatClampNeg) then (j_41 v2) else
ob (m_r h v0 12) fun b8 =>
ck (ixb h b8 .int v3 = true) <|
if (m_i h b8 v3.toNatClampNeg) < v1 then (j_41 v2) else
ob (m_r h v0 13) fun b12 =>
ck (ixb h b12 .int v3 = true) <|
nn (v2 + (m_i h b12 v3.toNatClampNeg)) fun x15 =>
j_41 x15
noncomputable def f_X9_coldAt (G : GG) (v0 : Nat) (v1 : Int32) (h : AH) : Option (Int32 × AH) :=
lq2 (F_X9_coldAt_4 G v0 v1 ) bN (0 : Int32) (0 : Int32) h
set_option maxHeartbeats 4000000 in
set_option maxRecDepth 100000 in
theorem el_X9_coldAt_4 {G : GG} {p : Program} {l : Launch} {e : Env} {s : State} {m : MethodId} {args : Array Value} {below : List Frame} {meth : Method} {c : Code} {y : Int32 × AH} (C : Cx G cX9_coldAt RX9 p s m args meth c) (hm : c.maxLocals = 4) (hr : meth.sig.returnType = (some .int)) (hin : meth.name = yX9_coldAt.name) {v0 : Nat} {v1 : Int32}  :
    ∀ (n : Nat) (v2 : Int32) (v3 : Int32) (h : AH), lq2 (F_X9_coldAt_4 G v0 v1) n v2 v3 h = some y → EE G p l e ({ frames := 0, cells := 0, slots := 0, locals := 0 } : Room) s m args below meth c (some (.int y.1), y.2) 0 0 4 [(0, .ref v0), (1, .int v1), (2, .int v2), (3, .int v3)] [] h 0 0 := by
  intro n
  induction n with
  | zero => intro v2 v3 h hf; exact (no_e hf).elim
  | succ n ih_4 =>
    intro v2 v3 h hf
    have hf : F_X9_coldAt_4 G v0 v1 (lq2 (F_X9_coldAt_4 G v0 v1) n) v2 v3 h = some y := hf
    generalize lq2 (F_X9_coldAt_4 G v0 v1) n = self_4 at hf ih_4
    unfold F_X9_coldAt_4 at hf
    refine e_iload_n (pc := 4) C dX9_coldAt_4 3 rfl rfl ?_
    refine e_aload_n (pc := 5) C dX9_coldAt_5 0 rfl rfl ?_
    obtain ⟨t1, hf⟩ := ck_e hf
    refine e_geti (pc := 6) 9 10 C dX9_coldAt_6 (by decide) (by decide) g351 rfl t1 ?_
    rcases it_e hf with ⟨c2, hf⟩ | ⟨c2, hf⟩
    · refine e_icmp_ge (pc := 9) (tgt := 47) C dX9_coldAt_9 (by decide) (fun _ => ?_) (fun q => absurd c2 q)
      refine e_iload_n (pc := 47) C dX9_coldAt_47 2 rfl rfl ?_
      obtain rfl := so_e hf
      exact e_iret (pc := 48) C hr dX9_coldAt_48 (Nat.le_of_ble_eq_true rfl) (Nat.le_of_ble_eq_true rfl)
    · refine e_icmp_ge (pc := 9) (tgt := 47) C dX9_coldAt_9 (by decide) (fun q => absurd q c2) (fun _ => ?_)
      refine e_aload_n (pc := 12) C dX9_coldAt_12 0 rfl rfl ?_
      refine e_getr (pc := 13) 9 11 C dX9_coldAt_13 (by decide) (by decide) g354 rfl t1 ?_
      obtain ⟨b3, eb3, hf⟩ := ob_e hf
      refine e_rf eb3 ?_
      refine e_iload_n (pc := 16) C dX9_coldAt_16 3 rfl rfl ?_
      obtain ⟨q4, hf⟩ := ck_e hf
      obtain ⟨n5, tn5, in5⟩ := ix_e q4
      refine e_iald (pc := 17) C dX9_coldAt_17 tn5 in5 ?_
      refine e_iload_n (pc := 18) C dX9_coldAt_18 1 rfl rfl ?_
      obtain ⟨j_41, ej_41, hf⟩ := nn_e hf
      have W_41 : ∀ (v2_41 : Int32), j_41 v2_41 = some y → EE G p l e ({ frames := 0, cells := 0, slots := 0, locals := 0 } : Room) s m args below meth c (some (.int y.1), y.2) 0 0 41 [(0, .ref v0), (1, .int v1), (2, .int v2_41), (3, .int v3)] [] h 0 0 := by
        intro v2_41 hf
        rw [ej_41] at hf
        obtain ⟨x6, ex6, hf⟩ := nn_e hf
        refine e_iinc (pc := 41) (v := x6) (lv2 := [(3, .int x6), (0, .ref v0), (1, .int v1), (2, .int v2_41)]) C hm dX9_coldAt_41 3 rfl (by rw [ex6]; rfl) (by decide) rfl ?_
        refine e_goto (pc := 44) (tgt := 4) C dX9_coldAt_44 (by decide) ?_
        refine e_lv (lv2 := [(0, .ref v0), (1, .int v1), (2, .int v2_41), (3, .int x6)]) [1, 2, 3, 0] rfl ?_
        exact ih_4 v2_41 x6 h hf
      rcases it_e hf with ⟨c7, hf⟩ | ⟨c7, hf⟩
      · refine e_icmp_gt (pc := 19) (tgt := 41) C dX9_coldAt_19 (by decide) (fun _ => ?_) (fun q => absurd c7 q)
        exact W_41 v2 hf
      · refine e_icmp_gt (pc := 19) (tgt := 41) C dX9_coldAt_19 (by decide) (fun q => absurd q c7) (fun _ => ?_)
        refine e_iload_n (pc := 22) C dX9_coldAt_22 1 rfl rfl ?_
        refine e_aload_n (pc := 23) C dX9_coldAt_23 0 rfl rfl ?_
        refine e_getr (pc := 24) 9 12 C dX9_coldAt_24 (by decide) (by decide) g356 rfl t1 ?_
        obtain ⟨b8, eb8, hf⟩ := ob_e hf
        refine e_rf eb8 ?_
        refine e_iload_n (pc := 27) C dX9_coldAt_27 3 rfl rfl ?_
        obtain ⟨q9, hf⟩ := ck_e hf
        obtain ⟨n10, tn10, in10⟩ := ix_e q9
        refine e_iald (pc := 28) C dX9_coldAt_28 tn10 in10 ?_
        rcases it_e hf with ⟨c11, hf⟩ | ⟨c11, hf⟩
        · refine e_icmp_gt (pc := 29) (tgt := 41) C dX9_coldAt_29 (by decide) (fun _ => ?_) (fun q => absurd c11 q)
          exact W_41 v2 hf
        · refine e_icmp_gt (pc := 29) (tgt := 41) C dX9_coldAt_29 (by decide) (fun q => absurd q c11) (fun _ => ?_)
          refine e_iload_n (pc := 32) C dX9_coldAt_32 2 rfl rfl ?_
          refine e_aload_n (pc := 33) C dX9_coldAt_33 0 rfl rfl ?_
          refine e_getr (pc := 34) 9 13 C dX9_coldAt_34 (by decide) (by decide) g358 rfl t1 ?_
          obtain ⟨b12, eb12, hf⟩ := ob_e hf
          refine e_rf eb12 ?_
          refine e_iload_n (pc := 37) C dX9_coldAt_37 3 rfl rfl ?_
          obtain ⟨q13, hf⟩ := ck_e hf
          obtain ⟨n14, tn14, in14⟩ := ix_e q13
          refine e_iald (pc := 38) C dX9_coldAt_38 tn14 in14 ?_
          refine e_iadd (pc := 39) C dX9_coldAt_39 ?_
          obtain ⟨x15, ex15, hf⟩ := nn_e hf
          refine e_topi ex15 ?_
          refine e_istore_n (pc := 40) (lv2 := [(2, .int x15), (0, .ref v0), (1, .int v1), (3, .int v3)]) C hm dX9_coldAt_40 rfl (by decide) rfl ?_
          refine e_lv (lv2 := [(0, .ref v0), (1, .int v1), (2, .int x15), (3, .int v3)]) [1, 2, 0, 3] rfl ?_
          exact W_41 x15 hf
set_option maxHeartbeats 4000000 in
set_option maxRecDepth 100000 in
theorem ct_X9_coldAt {G : GG} {l : Launch} {v0 : Nat} {v1 : Int32} {h : AH} {y : Int32 × AH} (hf : f_X9_coldAt G v0 v1 h = some y) : Ct G l yX9_coldAt cX9_coldAt 4 (some .int) 0 0 0 0 [.ref v0, .int v1] h (some (.int y.1), y.2) := by
  refine ct_of (by decide) (Nat.le_of_ble_eq_true rfl) ?_
  intro p e s m args below meth c C hm hr hin
  have C : Cx G cX9_coldAt RX9 p s m args meth c := C
  refine e_lv (lv2 := [(0, .ref v0), (1, .int v1)]) [0, 1] rfl ?_
  unfold f_X9_coldAt at hf
  refine e_iconst (v := (0 : Int32)) (pc := 0) C dX9_coldAt_0 (by decide) ?_
  refine e_istore_n (pc := 1) (lv2 := [(2, .int (0 : Int32)), (0, .ref v0), (1, .int v1)]) C hm dX9_coldAt_1 rfl (by decide) rfl ?_
  refine e_iconst (v := (0 : Int32)) (pc := 2) C dX9_coldAt_2 (by decide) ?_
  refine e_istore_n (pc := 3) (lv2 := [(3, .int (0 : Int32)), (2, .int (0 : Int32)), (0, .ref v0), (1, .int v1)]) C hm dX9_coldAt_3 rfl (by decide) rfl ?_
  refine e_lv (lv2 := [(0, .ref v0), (1, .int v1), (2, .int (0 : Int32)), (3, .int (0 : Int32))]) [2, 3, 1, 0] rfl ?_
  exact el_X9_coldAt_4 C hm hr hin bN (0 : Int32) (0 : Int32) h hf
theorem dX10_init_0 : decode cX10_init 0 = .ok (.aload_n 0, 1) := by decide +kernel
theorem dX10_init_1 : decode cX10_init 1 = .ok (.invokespecial 3, 3) := by decide +kernel
theorem dX10_init_4 : decode cX10_init 4 = .ok (.aload_n 0, 1) := by decide +kernel
theorem dX10_init_5 : decode cX10_init 5 = .ok (.iconst 0, 1) := by decide +kernel
theorem dX10_init_6 : decode cX10_init 6 = .ok (.putfield 9, 3) := by decide +kernel
theorem dX10_init_9 : decode cX10_init 9 = .ok (.aload_n 0, 1) := by decide +kernel
theorem dX10_init_10 : decode cX10_init 10 = .ok (.aload_n 1, 1) := by decide +kernel
theorem dX10_init_11 : decode cX10_init 11 = .ok (.putfield 15, 3) := by decide +kernel
theorem dX10_init_14 : decode cX10_init 14 = .ok (.return_, 1) := by decide +kernel
noncomputable def f_X10_init (G : GG) (v0 : Nat) (v1 : Nat) (h : AH) : Option (AH) :=
ck (m_t h v0 = .inl 10) <|
nn (m_si h v0 1 (0 : Int32)) fun h2 =>
nn (m_sr h2 v0 0 (some v1)) fun h3 =>
some h3
set_option maxHeartbeats 4000000 in
set_option maxRecDepth 100000 in
theorem ct_X10_init {G : GG} {l : Launch} {v0 : Nat} {v1 : Nat} {h : AH} {y : AH} (hf : f_X10_init G v0 v1 h = some y) : Ct G l yX10_init cX10_init 2 none 1 24 0 0 [.ref v0, .ref v1] h (none, y) := by
  refine ct_of (by decide) (Nat.le_of_ble_eq_true rfl) ?_
  intro p e s m args below meth c C hm hr hin
  have C : Cx G cX10_init RX10 p s m args meth c := C
  refine e_lv (lv2 := [(0, .ref v0), (1, .ref v1)]) [0, 1] rfl ?_
  unfold f_X10_init at hf
  refine e_aload_n (pc := 0) C dX10_init_0 0 rfl rfl ?_
  refine e_objInit (pc := 1) C dX10_init_1 g226 g173 g174 (Nat.le_of_ble_eq_true rfl) (Nat.le_of_ble_eq_true rfl) ?_
  refine e_aload_n (pc := 4) C dX10_init_4 0 rfl rfl ?_
  refine e_iconst (v := (0 : Int32)) (pc := 5) C dX10_init_5 (by decide) ?_
  obtain ⟨t1, hf⟩ := ck_e hf
  refine e_puti (pc := 6) 10 1 C dX10_init_6 (by decide) (by decide) g228 rfl rfl rfl (nz_ok (by decide)) t1 ?_
  obtain ⟨h2, eh2, hf⟩ := nn_e hf
  refine e_hp eh2 ?_
  have uh2 : m_t h2 = m_t h := by rw [eh2]; exact rfl
  refine e_aload_n (pc := 9) C dX10_init_9 0 rfl rfl ?_
  refine e_aload_n (pc := 10) C dX10_init_10 1 rfl rfl ?_
  refine e_putrF (pc := 11) (x := some v1) 10 0 C hin dX10_init_11 (by decide) (by decide) g227 rfl rfl rfl rfl rfl (e_mt uh2 t1) ?_
  obtain ⟨h3, eh3, hf⟩ := nn_e hf
  refine e_hp eh3 ?_
  have uh3 : m_t h3 = m_t h := by rw [eh3]; exact uh2
  obtain rfl := so_e hf
  exact e_vret (pc := 14) C hr dX10_init_14 (Nat.le_of_ble_eq_true rfl) (Nat.le_of_ble_eq_true rfl)
theorem dX10_isOutOfPlace_0 : decode cX10_isOutOfPlace 0 = .ok (.iload_n 3, 1) := by decide +kernel
theorem dX10_isOutOfPlace_1 : decode cX10_isOutOfPlace 1 = .ok (.ifCond .ne 16, 3) := by decide +kernel
theorem dX10_isOutOfPlace_4 : decode cX10_isOutOfPlace 4 = .ok (.iload_n 2, 1) := by decide +kernel
theorem dX10_isOutOfPlace_5 : decode cX10_isOutOfPlace 5 = .ok (.sipush 300, 3) := by decide +kernel
theorem dX10_isOutOfPlace_8 : decode cX10_isOutOfPlace 8 = .ok (.if_icmp .eq 7, 3) := by decide +kernel
theorem dX10_isOutOfPlace_11 : decode cX10_isOutOfPlace 11 = .ok (.iconst 1, 1) := by decide +kernel
theorem dX10_isOutOfPlace_12 : decode cX10_isOutOfPlace 12 = .ok (.goto 4, 3) := by decide +kernel
theorem dX10_isOutOfPlace_15 : decode cX10_isOutOfPlace 15 = .ok (.iconst 0, 1) := by decide +kernel
theorem dX10_isOutOfPlace_16 : decode cX10_isOutOfPlace 16 = .ok (.ireturn, 1) := by decide +kernel
theorem dX10_isOutOfPlace_17 : decode cX10_isOutOfPlace 17 = .ok (.iload_n 2, 1) := by decide +kernel
theorem dX10_isOutOfPlace_18 : decode cX10_isOutOfPlace 18 = .ok (.tableswitch 92 300 306 #[42, 44, 49, 92, 92, 64, 78], 42) := by decide +kernel
theorem dX10_isOutOfPlace_60 : decode cX10_isOutOfPlace 60 = .ok (.iconst 1, 1) := by decide +kernel
theorem dX10_isOutOfPlace_61 : decode cX10_isOutOfPlace 61 = .ok (.ireturn, 1) := by decide +kernel
theorem dX10_isOutOfPlace_62 : decode cX10_isOutOfPlace 62 = .ok (.aload_n 0, 1) := by decide +kernel
theorem dX10_isOutOfPlace_63 : decode cX10_isOutOfPlace 63 = .ok (.getfield 9, 3) := by decide +kernel
theorem dX10_isOutOfPlace_66 : decode cX10_isOutOfPlace 66 = .ok (.ireturn, 1) := by decide +kernel
theorem dX10_isOutOfPlace_67 : decode cX10_isOutOfPlace 67 = .ok (.aload_n 1, 1) := by decide +kernel
theorem dX10_isOutOfPlace_68 : decode cX10_isOutOfPlace 68 = .ok (.getfield 80, 3) := by decide +kernel
theorem dX10_isOutOfPlace_71 : decode cX10_isOutOfPlace 71 = .ok (.bipush 8, 2) := by decide +kernel
theorem dX10_isOutOfPlace_73 : decode cX10_isOutOfPlace 73 = .ok (.if_icmp .lt 7, 3) := by decide +kernel
theorem dX10_isOutOfPlace_76 : decode cX10_isOutOfPlace 76 = .ok (.iconst 1, 1) := by decide +kernel
theorem dX10_isOutOfPlace_77 : decode cX10_isOutOfPlace 77 = .ok (.goto 4, 3) := by decide +kernel
theorem dX10_isOutOfPlace_80 : decode cX10_isOutOfPlace 80 = .ok (.iconst 0, 1) := by decide +kernel
theorem dX10_isOutOfPlace_81 : decode cX10_isOutOfPlace 81 = .ok (.ireturn, 1) := by decide +kernel
theorem dX10_isOutOfPlace_82 : decode cX10_isOutOfPlace 82 = .ok (.aload_n 1, 1) := by decide +kernel
theorem dX10_isOutOfPlace_83 : decode cX10_isOutOfPlace 83 = .ok (.getfield 83, 3) := by decide +kernel
theorem dX10_isOutOfPlace_86 : decode cX10_isOutOfPlace 86 = .ok (.iconst 5, 1) := by decide +kernel
theorem dX10_isOutOfPlace_87 : decode cX10_isOutOfPlace 87 = .ok (.if_icmp .lt 7, 3) := by decide +kernel
theorem dX10_isOutOfPlace_90 : decode cX10_isOutOfPlace 90 = .ok (.iconst 1, 1) := by decide +kernel
theorem dX10_isOutOfPlace_91 : decode cX10_isOutOfPlace 91 = .ok (.goto 4, 3) := by decide +kernel
theorem dX10_isOutOfPlace_94 : decode cX10_isOutOfPlace 94 = .ok (.iconst 0, 1) := by decide +kernel
theorem dX10_isOutOfPlace_95 : decode cX10_isOutOfPlace 95 = .ok (.ireturn, 1) := by decide +kernel
theorem dX10_isOutOfPlace_96 : decode cX10_isOutOfPlace 96 = .ok (.aload_n 1, 1) := by decide +kernel
theorem dX10_isOutOfPlace_97 : decode cX10_isOutOfPlace 97 = .ok (.getfield 86, 3) := by decide +kernel
theorem dX10_isOutOfPlace_100 : decode cX10_isOutOfPlace 100 = .ok (.iconst 5, 1) := by decide +kernel
theorem dX10_isOutOfPlace_101 : decode cX10_isOutOfPlace 101 = .ok (.if_icmp .lt 7, 3) := by decide +kernel
theorem dX10_isOutOfPlace_104 : decode cX10_isOutOfPlace 104 = .ok (.iconst 1, 1) := by decide +kernel
theorem dX10_isOutOfPlace_105 : decode cX10_isOutOfPlace 105 = .ok (.goto 4, 3) := by decide +kernel
theorem dX10_isOutOfPlace_108 : decode cX10_isOutOfPlace 108 = .ok (.iconst 0, 1) := by decide +kernel
theorem dX10_isOutOfPlace_109 : decode cX10_isOutOfPlace 109 = .ok (.ireturn, 1) := by decide +kernel
theorem dX10_isOutOfPlace_110 : decode cX10_isOutOfPlace 110 = .ok (.iconst 0, 1) := by decide +kernel
theorem dX10_isOutOfPlace_111 : decode cX10_isOutOfPlace 111 = .ok (.ireturn, 1) := by decide +kernel
noncomputable def f_X10_isOutOfPlace (G : GG) (v0 : Nat) (v1 : Nat) (v2 : Int32) (v3 : Int32) (h : AH) : Option (Int32 × AH) :=
if v3 = 0 then (if v2 = (300 : Int32) then (some ((0 : Int32), h)) else
some ((1 : Int32), h)) else
if v2 = (300 : Int32) then (some ((1 : Int32), h)) else
if v2 = (301 : Int32) then (ck (m_t h v0 = .inl 10) <|
ck ((m_i h v0 1) &&& 1 = m_i h v0 1) <|
some (m_i h v0 1, h)) else
if v2 = (302 : Int32) then (ck (m_t h v1 = .inl 9) <|
if (m_i h v1 5) < (8 : Int32) then (some ((0 : Int32), h)) else
some ((1 : Int32), h)) else
if v2 = (303 : Int32) then (some ((0 : Int32), h)) else
if v2 = (304 : Int32) then (some ((0 : Int32), h)) else
if v2 = (305 : Int32) then (ck (m_t h v1 = .inl 9) <|
if (m_i h v1 7) < (5 : Int32) then (some ((0 : Int32), h)) else
some ((1 : Int32), h)) else
if v2 = (306 : Int32) then (ck (m_t h v1 = .inl 9) <|
if (m_i h v1 10) < (5 : Int32) then (some ((0 : Int32), h)) else
some ((1 : Int32), h)) else
some ((0 : Int32), h)
set_option maxHeartbeats 4000000 in
set_option maxRecDepth 100000 in
theorem ct_X10_isOutOfPlace {G : GG} {l : Launch} {v0 : Nat} {v1 : Nat} {v2 : Int32} {v3 : Int32} {h : AH} {y : Int32 × AH} (hf : f_X10_isOutOfPlace G v0 v1 v2 v3 h = some y) : Ct G l yX10_isOutOfPlace cX10_isOutOfPlace 4 (some .boolean) 0 0 0 0 [.ref v0, .ref v1, .int v2, .int v3] h (some (.int y.1), y.2) := by
  refine ct_of (by decide) (Nat.le_of_ble_eq_true rfl) ?_
  intro p e s m args below meth c C hm hr hin
  have C : Cx G cX10_isOutOfPlace RX10 p s m args meth c := C
  refine e_lv (lv2 := [(0, .ref v0), (1, .ref v1), (2, .int v2), (3, .int v3)]) [0, 1, 2, 3] rfl ?_
  unfold f_X10_isOutOfPlace at hf
  refine e_iload_n (pc := 0) C dX10_isOutOfPlace_0 3 rfl rfl ?_
  rcases it_e hf with ⟨c1, hf⟩ | ⟨c1, hf⟩
  · refine e_if_ne (pc := 1) (tgt := 17) C dX10_isOutOfPlace_1 (by decide) (fun q => absurd c1 q) (fun _ => ?_)
    refine e_iload_n (pc := 4) C dX10_isOutOfPlace_4 2 rfl rfl ?_
    refine e_sipush (v := (300 : Int32)) (pc := 5) C dX10_isOutOfPlace_5 (by decide) ?_
    rcases it_e hf with ⟨c2, hf⟩ | ⟨c2, hf⟩
    · refine e_icmp_eq (pc := 8) (tgt := 15) C dX10_isOutOfPlace_8 (by decide) (fun _ => ?_) (fun q => absurd c2 q)
      refine e_iconst (v := (0 : Int32)) (pc := 15) C dX10_isOutOfPlace_15 (by decide) ?_
      obtain rfl := so_e hf
      exact e_zret (pc := 16) (v := (0 : Int32)) C hr (nz_ok (by decide)) dX10_isOutOfPlace_16 (Nat.le_of_ble_eq_true rfl) (Nat.le_of_ble_eq_true rfl)
    · refine e_icmp_eq (pc := 8) (tgt := 15) C dX10_isOutOfPlace_8 (by decide) (fun q => absurd q c2) (fun _ => ?_)
      refine e_iconst (v := (1 : Int32)) (pc := 11) C dX10_isOutOfPlace_11 (by decide) ?_
      refine e_goto (pc := 12) (tgt := 16) C dX10_isOutOfPlace_12 (by decide) ?_
      obtain rfl := so_e hf
      exact e_zret (pc := 16) (v := (1 : Int32)) C hr (nz_ok (by decide)) dX10_isOutOfPlace_16 (Nat.le_of_ble_eq_true rfl) (Nat.le_of_ble_eq_true rfl)
  · refine e_if_ne (pc := 1) (tgt := 17) C dX10_isOutOfPlace_1 (by decide) (fun _ => ?_) (fun q => absurd q c1)
    refine e_iload_n (pc := 17) C dX10_isOutOfPlace_17 2 rfl rfl ?_
    rcases it_e hf with ⟨c3, hf⟩ | ⟨c3, hf⟩
    · refine e_tabK (pc := 18) (tgt := 60) (300 : Int32) c3 C dX10_isOutOfPlace_18 (by decide) (by decide) rfl (by decide) ?_
      refine e_iconst (v := (1 : Int32)) (pc := 60) C dX10_isOutOfPlace_60 (by decide) ?_
      obtain rfl := so_e hf
      exact e_zret (pc := 61) (v := (1 : Int32)) C hr (nz_ok (by decide)) dX10_isOutOfPlace_61 (Nat.le_of_ble_eq_true rfl) (Nat.le_of_ble_eq_true rfl)
    rcases it_e hf with ⟨c4, hf⟩ | ⟨c4, hf⟩
    · refine e_tabK (pc := 18) (tgt := 62) (301 : Int32) c4 C dX10_isOutOfPlace_18 (by decide) (by decide) rfl (by decide) ?_
      refine e_aload_n (pc := 62) C dX10_isOutOfPlace_62 0 rfl rfl ?_
      obtain ⟨t5, hf⟩ := ck_e hf
      refine e_geti (pc := 63) 10 1 C dX10_isOutOfPlace_63 (by decide) (by decide) g228 rfl t5 ?_
      obtain ⟨q6, hf⟩ := ck_e hf
      obtain rfl := so_e hf
      exact e_zret (pc := 66) (v := m_i h v0 1) C hr (nz_ok q6) dX10_isOutOfPlace_66 (Nat.le_of_ble_eq_true rfl) (Nat.le_of_ble_eq_true rfl)
    rcases it_e hf with ⟨c7, hf⟩ | ⟨c7, hf⟩
    · refine e_tabK (pc := 18) (tgt := 67) (302 : Int32) c7 C dX10_isOutOfPlace_18 (by decide) (by decide) rfl (by decide) ?_
      refine e_aload_n (pc := 67) C dX10_isOutOfPlace_67 1 rfl rfl ?_
      obtain ⟨t8, hf⟩ := ck_e hf
      refine e_getiN (pc := 68) 9 5 C dX10_isOutOfPlace_68 (by decide) (by decide) g338 rfl t8 ?_
      refine e_bipush (v := (8 : Int32)) (pc := 71) C dX10_isOutOfPlace_71 (by decide) ?_
      rcases it_e hf with ⟨c9, hf⟩ | ⟨c9, hf⟩
      · refine e_icmp_lt (pc := 73) (tgt := 80) C dX10_isOutOfPlace_73 (by decide) (fun _ => ?_) (fun q => absurd c9 q)
        refine e_iconst (v := (0 : Int32)) (pc := 80) C dX10_isOutOfPlace_80 (by decide) ?_
        obtain rfl := so_e hf
        exact e_zret (pc := 81) (v := (0 : Int32)) C hr (nz_ok (by decide)) dX10_isOutOfPlace_81 (Nat.le_of_ble_eq_true rfl) (Nat.le_of_ble_eq_true rfl)
      · refine e_icmp_lt (pc := 73) (tgt := 80) C dX10_isOutOfPlace_73 (by decide) (fun q => absurd q c9) (fun _ => ?_)
        refine e_iconst (v := (1 : Int32)) (pc := 76) C dX10_isOutOfPlace_76 (by decide) ?_
        refine e_goto (pc := 77) (tgt := 81) C dX10_isOutOfPlace_77 (by decide) ?_
        obtain rfl := so_e hf
        exact e_zret (pc := 81) (v := (1 : Int32)) C hr (nz_ok (by decide)) dX10_isOutOfPlace_81 (Nat.le_of_ble_eq_true rfl) (Nat.le_of_ble_eq_true rfl)
    rcases it_e hf with ⟨c10, hf⟩ | ⟨c10, hf⟩
    · refine e_tabK (pc := 18) (tgt := 110) (303 : Int32) c10 C dX10_isOutOfPlace_18 (by decide) (by decide) rfl (by decide) ?_
      refine e_iconst (v := (0 : Int32)) (pc := 110) C dX10_isOutOfPlace_110 (by decide) ?_
      obtain rfl := so_e hf
      exact e_zret (pc := 111) (v := (0 : Int32)) C hr (nz_ok (by decide)) dX10_isOutOfPlace_111 (Nat.le_of_ble_eq_true rfl) (Nat.le_of_ble_eq_true rfl)
    rcases it_e hf with ⟨c11, hf⟩ | ⟨c11, hf⟩
    · refine e_tabK (pc := 18) (tgt := 110) (304 : Int32) c11 C dX10_isOutOfPlace_18 (by decide) (by decide) rfl (by decide) ?_
      refine e_iconst (v := (0 : Int32)) (pc := 110) C dX10_isOutOfPlace_110 (by decide) ?_
      obtain rfl := so_e hf
      exact e_zret (pc := 111) (v := (0 : Int32)) C hr (nz_ok (by decide)) dX10_isOutOfPlace_111 (Nat.le_of_ble_eq_true rfl) (Nat.le_of_ble_eq_true rfl)
    rcases it_e hf with ⟨c12, hf⟩ | ⟨c12, hf⟩
    · refine e_tabK (pc := 18) (tgt := 82) (305 : Int32) c12 C dX10_isOutOfPlace_18 (by decide) (by decide) rfl (by decide) ?_
      refine e_aload_n (pc := 82) C dX10_isOutOfPlace_82 1 rfl rfl ?_
      obtain ⟨t13, hf⟩ := ck_e hf
      refine e_getiN (pc := 83) 9 7 C dX10_isOutOfPlace_83 (by decide) (by decide) g345 rfl t13 ?_
      refine e_iconst (v := (5 : Int32)) (pc := 86) C dX10_isOutOfPlace_86 (by decide) ?_
      rcases it_e hf with ⟨c14, hf⟩ | ⟨c14, hf⟩
      · refine e_icmp_lt (pc := 87) (tgt := 94) C dX10_isOutOfPlace_87 (by decide) (fun _ => ?_) (fun q => absurd c14 q)
        refine e_iconst (v := (0 : Int32)) (pc := 94) C dX10_isOutOfPlace_94 (by decide) ?_
        obtain rfl := so_e hf
        exact e_zret (pc := 95) (v := (0 : Int32)) C hr (nz_ok (by decide)) dX10_isOutOfPlace_95 (Nat.le_of_ble_eq_true rfl) (Nat.le_of_ble_eq_true rfl)
      · refine e_icmp_lt (pc := 87) (tgt := 94) C dX10_isOutOfPlace_87 (by decide) (fun q => absurd q c14) (fun _ => ?_)
        refine e_iconst (v := (1 : Int32)) (pc := 90) C dX10_isOutOfPlace_90 (by decide) ?_
        refine e_goto (pc := 91) (tgt := 95) C dX10_isOutOfPlace_91 (by decide) ?_
        obtain rfl := so_e hf
        exact e_zret (pc := 95) (v := (1 : Int32)) C hr (nz_ok (by decide)) dX10_isOutOfPlace_95 (Nat.le_of_ble_eq_true rfl) (Nat.le_of_ble_eq_true rfl)
    rcases it_e hf with ⟨c15, hf⟩ | ⟨c15, hf⟩
    · refine e_tabK (pc := 18) (tgt := 96) (306 : Int32) c15 C dX10_isOutOfPlace_18 (by decide) (by decide) rfl (by decide) ?_
      refine e_aload_n (pc := 96) C dX10_isOutOfPlace_96 1 rfl rfl ?_
      obtain ⟨t16, hf⟩ := ck_e hf
      refine e_getiN (pc := 97) 9 10 C dX10_isOutOfPlace_97 (by decide) (by decide) g352 rfl t16 ?_
      refine e_iconst (v := (5 : Int32)) (pc := 100) C dX10_isOutOfPlace_100 (by decide) ?_
      rcases it_e hf with ⟨c17, hf⟩ | ⟨c17, hf⟩
      · refine e_icmp_lt (pc := 101) (tgt := 108) C dX10_isOutOfPlace_101 (by decide) (fun _ => ?_) (fun q => absurd c17 q)
        refine e_iconst (v := (0 : Int32)) (pc := 108) C dX10_isOutOfPlace_108 (by decide) ?_
        obtain rfl := so_e hf
        exact e_zret (pc := 109) (v := (0 : Int32)) C hr (nz_ok (by decide)) dX10_isOutOfPlace_109 (Nat.le_of_ble_eq_true rfl) (Nat.le_of_ble_eq_true rfl)
      · refine e_icmp_lt (pc := 101) (tgt := 108) C dX10_isOutOfPlace_101 (by decide) (fun q => absurd q c17) (fun _ => ?_)
        refine e_iconst (v := (1 : Int32)) (pc := 104) C dX10_isOutOfPlace_104 (by decide) ?_
        refine e_goto (pc := 105) (tgt := 109) C dX10_isOutOfPlace_105 (by decide) ?_
        obtain rfl := so_e hf
        exact e_zret (pc := 109) (v := (1 : Int32)) C hr (nz_ok (by decide)) dX10_isOutOfPlace_109 (Nat.le_of_ble_eq_true rfl) (Nat.le_of_ble_eq_true rfl)
    refine e_tabOut (pc := 18) (tgt := 110) C dX10_isOutOfPlace_18 (by have g0 := i_ne 300 (by decide) c3; have g1 := i_ne 301 (by decide) c4; have g2 := i_ne 302 (by decide) c7; have g3 := i_ne 303 (by decide) c10; have g4 := i_ne 304 (by decide) c11; have g5 := i_ne 305 (by decide) c12; have g6 := i_ne 306 (by decide) c15; omega) (by decide) ?_
    refine e_iconst (v := (0 : Int32)) (pc := 110) C dX10_isOutOfPlace_110 (by decide) ?_
    obtain rfl := so_e hf
    exact e_zret (pc := 111) (v := (0 : Int32)) C hr (nz_ok (by decide)) dX10_isOutOfPlace_111 (Nat.le_of_ble_eq_true rfl) (Nat.le_of_ble_eq_true rfl)
theorem dX10_readStart_0 : decode cX10_readStart 0 = .ok (.aload_n 1, 1) := by decide +kernel
theorem dX10_readStart_1 : decode cX10_readStart 1 = .ok (.aload_n 0, 1) := by decide +kernel
theorem dX10_readStart_2 : decode cX10_readStart 2 = .ok (.getfield 15, 3) := by decide +kernel
theorem dX10_readStart_5 : decode cX10_readStart 5 = .ok (.iconst 0, 1) := by decide +kernel
theorem dX10_readStart_6 : decode cX10_readStart 6 = .ok (.bipush 60, 2) := by decide +kernel
theorem dX10_readStart_8 : decode cX10_readStart 8 = .ok (.invokevirtual 89, 3) := by decide +kernel
theorem dX10_readStart_11 : decode cX10_readStart 11 = .ok (.putfield 93, 3) := by decide +kernel
theorem dX10_readStart_14 : decode cX10_readStart 14 = .ok (.aload_n 1, 1) := by decide +kernel
theorem dX10_readStart_15 : decode cX10_readStart 15 = .ok (.aload_n 0, 1) := by decide +kernel
theorem dX10_readStart_16 : decode cX10_readStart 16 = .ok (.getfield 15, 3) := by decide +kernel
theorem dX10_readStart_19 : decode cX10_readStart 19 = .ok (.iconst 0, 1) := by decide +kernel
theorem dX10_readStart_20 : decode cX10_readStart 20 = .ok (.iconst 3, 1) := by decide +kernel
theorem dX10_readStart_21 : decode cX10_readStart 21 = .ok (.invokevirtual 89, 3) := by decide +kernel
theorem dX10_readStart_24 : decode cX10_readStart 24 = .ok (.putfield 96, 3) := by decide +kernel
theorem dX10_readStart_27 : decode cX10_readStart 27 = .ok (.aload_n 1, 1) := by decide +kernel
theorem dX10_readStart_28 : decode cX10_readStart 28 = .ok (.aload_n 0, 1) := by decide +kernel
theorem dX10_readStart_29 : decode cX10_readStart 29 = .ok (.getfield 15, 3) := by decide +kernel
theorem dX10_readStart_32 : decode cX10_readStart 32 = .ok (.iconst 0, 1) := by decide +kernel
theorem dX10_readStart_33 : decode cX10_readStart 33 = .ok (.bipush 6, 2) := by decide +kernel
theorem dX10_readStart_35 : decode cX10_readStart 35 = .ok (.invokevirtual 89, 3) := by decide +kernel
theorem dX10_readStart_38 : decode cX10_readStart 38 = .ok (.putfield 99, 3) := by decide +kernel
theorem dX10_readStart_41 : decode cX10_readStart 41 = .ok (.return_, 1) := by decide +kernel
noncomputable def f_X10_readStart (G : GG) (v0 : Nat) (v1 : Nat) (h : AH) : Option (AH) :=
ck (m_t h v0 = .inl 10) <|
ob (m_r h v0 0) fun b2 =>
ck (m_t h b2 = .inl 8) <|
cb (lri 0 b2 (s_X8_takeNumber G (0 : Int32) (60 : Int32)) h) fun r6 h4 =>
ck (m_t h4 v1 = .inl 9) <|
nn (m_si h4 v1 1 r6) fun h8 =>
ck (m_t h8 v0 = .inl 10) <|
ob (m_r h8 v0 0) fun b10 =>
ck (m_t h8 b10 = .inl 8) <|
cb (lri 0 b10 (s_X8_takeNumber G (0 : Int32) (3 : Int32)) h8) fun r14 h12 =>
ck (m_t h12 v1 = .inl 9) <|
nn (m_si h12 v1 2 r14) fun h16 =>
ck (m_t h16 v0 = .inl 10) <|
ob (m_r h16 v0 0) fun b18 =>
ck (m_t h16 b18 = .inl 8) <|
cb (lri 0 b18 (s_X8_takeNumber G (0 : Int32) (6 : Int32)) h16) fun r22 h20 =>
ck (m_t h20 v1 = .inl 9) <|
nn (m_si h20 v1 3 r22) fun h24 =>
some h24
set_option maxHeartbeats 4000000 in
set_option maxRecDepth 100000 in
theorem ct_X10_readStart {G : GG} {l : Launch} {v0 : Nat} {v1 : Nat} {h : AH} {y : AH} (hf : f_X10_readStart G v0 v1 h = some y) : Ct G l yX10_readStart cX10_readStart 2 none 2 44 0 0 [.ref v0, .ref v1] h (none, y) := by
  refine ct_of (by decide) (Nat.le_of_ble_eq_true rfl) ?_
  intro p e s m args below meth c C hm hr hin
  have C : Cx G cX10_readStart RX10 p s m args meth c := C
  refine e_lv (lv2 := [(0, .ref v0), (1, .ref v1)]) [0, 1] rfl ?_
  unfold f_X10_readStart at hf
  refine e_aload_n (pc := 0) C dX10_readStart_0 1 rfl rfl ?_
  refine e_aload_n (pc := 1) C dX10_readStart_1 0 rfl rfl ?_
  obtain ⟨t1, hf⟩ := ck_e hf
  refine e_getr (pc := 2) 10 0 C dX10_readStart_2 (by decide) (by decide) g227 rfl t1 ?_
  obtain ⟨b2, eb2, hf⟩ := ob_e hf
  refine e_rf eb2 ?_
  refine e_iconst (v := (0 : Int32)) (pc := 5) C dX10_readStart_5 (by decide) ?_
  refine e_bipush (v := (60 : Int32)) (pc := 6) C dX10_readStart_6 (by decide) ?_
  obtain ⟨t3, hf⟩ := ck_e hf
  obtain ⟨r6, h4, y5, hf⟩ := cb_e hf
  refine e_callVi (pc := 8) (st := [.ref v1]) 8 C (lr_cti (o := 0) (fun hI => st_X8_takeNumber hI) y5) dX10_readStart_8 (by decide) t3 g735 g736 g737 g147 g738 hd_X8_takeNumber rfl ⟨Nat.le_of_ble_eq_true rfl, Nat.le_of_ble_eq_true rfl⟩ ⟨Nat.le_of_ble_eq_true rfl, Nat.le_of_ble_eq_true rfl⟩ rfl (Nat.le_of_ble_eq_true rfl) ?_
  obtain ⟨t7, hf⟩ := ck_e hf
  refine e_putiN (pc := 11) 9 1 C dX10_readStart_11 (by decide) (by decide) g318 rfl rfl rfl rfl t7 ?_
  obtain ⟨h8, eh8, hf⟩ := nn_e hf
  refine e_hp eh8 ?_
  have uh8 : m_t h8 = m_t h4 := by rw [eh8]; exact rfl
  refine e_aload_n (pc := 14) C dX10_readStart_14 1 rfl rfl ?_
  refine e_aload_n (pc := 15) C dX10_readStart_15 0 rfl rfl ?_
  obtain ⟨t9, hf⟩ := ck_e hf
  refine e_getr (pc := 16) 10 0 C dX10_readStart_16 (by decide) (by decide) g227 rfl t9 ?_
  obtain ⟨b10, eb10, hf⟩ := ob_e hf
  refine e_rf eb10 ?_
  refine e_iconst (v := (0 : Int32)) (pc := 19) C dX10_readStart_19 (by decide) ?_
  refine e_iconst (v := (3 : Int32)) (pc := 20) C dX10_readStart_20 (by decide) ?_
  obtain ⟨t11, hf⟩ := ck_e hf
  obtain ⟨r14, h12, y13, hf⟩ := cb_e hf
  refine e_callVi (pc := 21) (st := [.ref v1]) 8 C (lr_cti (o := 0) (fun hI => st_X8_takeNumber hI) y13) dX10_readStart_21 (by decide) t11 g735 g736 g737 g147 g738 hd_X8_takeNumber rfl ⟨Nat.le_of_ble_eq_true rfl, Nat.le_of_ble_eq_true rfl⟩ ⟨Nat.le_of_ble_eq_true rfl, Nat.le_of_ble_eq_true rfl⟩ rfl (Nat.le_of_ble_eq_true rfl) ?_
  obtain ⟨t15, hf⟩ := ck_e hf
  refine e_putiN (pc := 24) 9 2 C dX10_readStart_24 (by decide) (by decide) g321 rfl rfl rfl rfl t15 ?_
  obtain ⟨h16, eh16, hf⟩ := nn_e hf
  refine e_hp eh16 ?_
  have uh16 : m_t h16 = m_t h12 := by rw [eh16]; exact rfl
  refine e_aload_n (pc := 27) C dX10_readStart_27 1 rfl rfl ?_
  refine e_aload_n (pc := 28) C dX10_readStart_28 0 rfl rfl ?_
  obtain ⟨t17, hf⟩ := ck_e hf
  refine e_getr (pc := 29) 10 0 C dX10_readStart_29 (by decide) (by decide) g227 rfl t17 ?_
  obtain ⟨b18, eb18, hf⟩ := ob_e hf
  refine e_rf eb18 ?_
  refine e_iconst (v := (0 : Int32)) (pc := 32) C dX10_readStart_32 (by decide) ?_
  refine e_bipush (v := (6 : Int32)) (pc := 33) C dX10_readStart_33 (by decide) ?_
  obtain ⟨t19, hf⟩ := ck_e hf
  obtain ⟨r22, h20, y21, hf⟩ := cb_e hf
  refine e_callVi (pc := 35) (st := [.ref v1]) 8 C (lr_cti (o := 0) (fun hI => st_X8_takeNumber hI) y21) dX10_readStart_35 (by decide) t19 g735 g736 g737 g147 g738 hd_X8_takeNumber rfl ⟨Nat.le_of_ble_eq_true rfl, Nat.le_of_ble_eq_true rfl⟩ ⟨Nat.le_of_ble_eq_true rfl, Nat.le_of_ble_eq_true rfl⟩ rfl (Nat.le_of_ble_eq_true rfl) ?_
  obtain ⟨t23, hf⟩ := ck_e hf
  refine e_putiN (pc := 38) 9 3 C dX10_readStart_38 (by decide) (by decide) g326 rfl rfl rfl rfl t23 ?_
  obtain ⟨h24, eh24, hf⟩ := nn_e hf
  refine e_hp eh24 ?_
  have uh24 : m_t h24 = m_t h20 := by rw [eh24]; exact rfl
  obtain rfl := so_e hf
  exact e_vret (pc := 41) C hr dX10_readStart_41 (Nat.le_of_ble_eq_true rfl) (Nat.le_of_ble_eq_true rfl)
theorem dX10_readHole_0 : decode cX10_readHole 0 = .ok (.aload_n 1, 1) := by decide +kernel
theorem dX10_readHole_1 : decode cX10_readHole 1 = .ok (.aload_n 0, 1) := by decide +kernel
theorem dX10_readHole_2 : decode cX10_readHole 2 = .ok (.getfield 15, 3) := by decide +kernel
theorem dX10_readHole_5 : decode cX10_readHole 5 = .ok (.iconst 0, 1) := by decide +kernel
theorem dX10_readHole_6 : decode cX10_readHole 6 = .ok (.iconst 5, 1) := by decide +kernel
theorem dX10_readHole_7 : decode cX10_readHole 7 = .ok (.invokevirtual 89, 3) := by decide +kernel
theorem dX10_readHole_10 : decode cX10_readHole 10 = .ok (.putfield 102, 3) := by decide +kernel
theorem dX10_readHole_13 : decode cX10_readHole 13 = .ok (.aload_n 0, 1) := by decide +kernel
theorem dX10_readHole_14 : decode cX10_readHole 14 = .ok (.iconst 1, 1) := by decide +kernel
theorem dX10_readHole_15 : decode cX10_readHole 15 = .ok (.putfield 9, 3) := by decide +kernel
theorem dX10_readHole_18 : decode cX10_readHole 18 = .ok (.return_, 1) := by decide +kernel
noncomputable def f_X10_readHole (G : GG) (v0 : Nat) (v1 : Nat) (h : AH) : Option (AH) :=
ck (m_t h v0 = .inl 10) <|
ob (m_r h v0 0) fun b2 =>
ck (m_t h b2 = .inl 8) <|
cb (lri 0 b2 (s_X8_takeNumber G (0 : Int32) (5 : Int32)) h) fun r6 h4 =>
ck (m_t h4 v1 = .inl 9) <|
nn (m_si h4 v1 4 r6) fun h8 =>
ck (m_t h8 v0 = .inl 10) <|
nn (m_si h8 v0 1 (1 : Int32)) fun h10 =>
some h10
set_option maxHeartbeats 4000000 in
set_option maxRecDepth 100000 in
theorem ct_X10_readHole {G : GG} {l : Launch} {v0 : Nat} {v1 : Nat} {h : AH} {y : AH} (hf : f_X10_readHole G v0 v1 h = some y) : Ct G l yX10_readHole cX10_readHole 2 none 2 44 0 0 [.ref v0, .ref v1] h (none, y) := by
  refine ct_of (by decide) (Nat.le_of_ble_eq_true rfl) ?_
  intro p e s m args below meth c C hm hr hin
  have C : Cx G cX10_readHole RX10 p s m args meth c := C
  refine e_lv (lv2 := [(0, .ref v0), (1, .ref v1)]) [0, 1] rfl ?_
  unfold f_X10_readHole at hf
  refine e_aload_n (pc := 0) C dX10_readHole_0 1 rfl rfl ?_
  refine e_aload_n (pc := 1) C dX10_readHole_1 0 rfl rfl ?_
  obtain ⟨t1, hf⟩ := ck_e hf
  refine e_getr (pc := 2) 10 0 C dX10_readHole_2 (by decide) (by decide) g227 rfl t1 ?_
  obtain ⟨b2, eb2, hf⟩ := ob_e hf
  refine e_rf eb2 ?_
  refine e_iconst (v := (0 : Int32)) (pc := 5) C dX10_readHole_5 (by decide) ?_
  refine e_iconst (v := (5 : Int32)) (pc := 6) C dX10_readHole_6 (by decide) ?_
  obtain ⟨t3, hf⟩ := ck_e hf
  obtain ⟨r6, h4, y5, hf⟩ := cb_e hf
  refine e_callVi (pc := 7) (st := [.ref v1]) 8 C (lr_cti (o := 0) (fun hI => st_X8_takeNumber hI) y5) dX10_readHole_7 (by decide) t3 g735 g736 g737 g147 g738 hd_X8_takeNumber rfl ⟨Nat.le_of_ble_eq_true rfl, Nat.le_of_ble_eq_true rfl⟩ ⟨Nat.le_of_ble_eq_true rfl, Nat.le_of_ble_eq_true rfl⟩ rfl (Nat.le_of_ble_eq_true rfl) ?_
  obtain ⟨t7, hf⟩ := ck_e hf
  refine e_putiN (pc := 10) 9 4 C dX10_readHole_10 (by decide) (by decide) g331 rfl rfl rfl rfl t7 ?_
  obtain ⟨h8, eh8, hf⟩ := nn_e hf
  refine e_hp eh8 ?_
  have uh8 : m_t h8 = m_t h4 := by rw [eh8]; exact rfl
  refine e_aload_n (pc := 13) C dX10_readHole_13 0 rfl rfl ?_
  refine e_iconst (v := (1 : Int32)) (pc := 14) C dX10_readHole_14 (by decide) ?_
  obtain ⟨t9, hf⟩ := ck_e hf
  refine e_puti (pc := 15) 10 1 C dX10_readHole_15 (by decide) (by decide) g228 rfl rfl rfl (nz_ok (by decide)) t9 ?_
  obtain ⟨h10, eh10, hf⟩ := nn_e hf
  refine e_hp eh10 ?_
  have uh10 : m_t h10 = m_t h4 := by rw [eh10]; exact uh8
  obtain rfl := so_e hf
  exact e_vret (pc := 18) C hr dX10_readHole_18 (Nat.le_of_ble_eq_true rfl) (Nat.le_of_ble_eq_true rfl)
theorem dX10_readPerson_0 : decode cX10_readPerson 0 = .ok (.aload_n 1, 1) := by decide +kernel
theorem dX10_readPerson_1 : decode cX10_readPerson 1 = .ok (.getfield 105, 3) := by decide +kernel
theorem dX10_readPerson_4 : decode cX10_readPerson 4 = .ok (.aload_n 1, 1) := by decide +kernel
theorem dX10_readPerson_5 : decode cX10_readPerson 5 = .ok (.getfield 80, 3) := by decide +kernel
theorem dX10_readPerson_8 : decode cX10_readPerson 8 = .ok (.aaload, 1) := by decide +kernel
theorem dX10_readPerson_9 : decode cX10_readPerson 9 = .ok (.astore_n 2, 1) := by decide +kernel
theorem dX10_readPerson_10 : decode cX10_readPerson 10 = .ok (.aload_n 2, 1) := by decide +kernel
theorem dX10_readPerson_11 : decode cX10_readPerson 11 = .ok (.aload_n 0, 1) := by decide +kernel
theorem dX10_readPerson_12 : decode cX10_readPerson 12 = .ok (.getfield 15, 3) := by decide +kernel
theorem dX10_readPerson_15 : decode cX10_readPerson 15 = .ok (.iconst 0, 1) := by decide +kernel
theorem dX10_readPerson_16 : decode cX10_readPerson 16 = .ok (.bipush 7, 2) := by decide +kernel
theorem dX10_readPerson_18 : decode cX10_readPerson 18 = .ok (.invokevirtual 89, 3) := by decide +kernel
theorem dX10_readPerson_21 : decode cX10_readPerson 21 = .ok (.putfield 109, 3) := by decide +kernel
theorem dX10_readPerson_24 : decode cX10_readPerson 24 = .ok (.aload_n 2, 1) := by decide +kernel
theorem dX10_readPerson_25 : decode cX10_readPerson 25 = .ok (.aload_n 0, 1) := by decide +kernel
theorem dX10_readPerson_26 : decode cX10_readPerson 26 = .ok (.getfield 15, 3) := by decide +kernel
theorem dX10_readPerson_29 : decode cX10_readPerson 29 = .ok (.iconst 0, 1) := by decide +kernel
theorem dX10_readPerson_30 : decode cX10_readPerson 30 = .ok (.sipush 239, 3) := by decide +kernel
theorem dX10_readPerson_33 : decode cX10_readPerson 33 = .ok (.invokevirtual 89, 3) := by decide +kernel
theorem dX10_readPerson_36 : decode cX10_readPerson 36 = .ok (.putfield 114, 3) := by decide +kernel
theorem dX10_readPerson_39 : decode cX10_readPerson 39 = .ok (.aload_n 2, 1) := by decide +kernel
theorem dX10_readPerson_40 : decode cX10_readPerson 40 = .ok (.aload_n 0, 1) := by decide +kernel
theorem dX10_readPerson_41 : decode cX10_readPerson 41 = .ok (.getfield 15, 3) := by decide +kernel
theorem dX10_readPerson_44 : decode cX10_readPerson 44 = .ok (.aload_n 2, 1) := by decide +kernel
theorem dX10_readPerson_45 : decode cX10_readPerson 45 = .ok (.getfield 114, 3) := by decide +kernel
theorem dX10_readPerson_48 : decode cX10_readPerson 48 = .ok (.iconst 1, 1) := by decide +kernel
theorem dX10_readPerson_49 : decode cX10_readPerson 49 = .ok (.iadd, 1) := by decide +kernel
theorem dX10_readPerson_50 : decode cX10_readPerson 50 = .ok (.sipush 240, 3) := by decide +kernel
theorem dX10_readPerson_53 : decode cX10_readPerson 53 = .ok (.invokevirtual 89, 3) := by decide +kernel
theorem dX10_readPerson_56 : decode cX10_readPerson 56 = .ok (.putfield 117, 3) := by decide +kernel
theorem dX10_readPerson_59 : decode cX10_readPerson 59 = .ok (.aload_n 2, 1) := by decide +kernel
theorem dX10_readPerson_60 : decode cX10_readPerson 60 = .ok (.aload_n 0, 1) := by decide +kernel
theorem dX10_readPerson_61 : decode cX10_readPerson 61 = .ok (.getfield 15, 3) := by decide +kernel
theorem dX10_readPerson_64 : decode cX10_readPerson 64 = .ok (.iconst 0, 1) := by decide +kernel
theorem dX10_readPerson_65 : decode cX10_readPerson 65 = .ok (.bipush 60, 2) := by decide +kernel
theorem dX10_readPerson_67 : decode cX10_readPerson 67 = .ok (.invokevirtual 89, 3) := by decide +kernel
theorem dX10_readPerson_70 : decode cX10_readPerson 70 = .ok (.putfield 120, 3) := by decide +kernel
theorem dX10_readPerson_73 : decode cX10_readPerson 73 = .ok (.aload_n 2, 1) := by decide +kernel
theorem dX10_readPerson_74 : decode cX10_readPerson 74 = .ok (.aload_n 0, 1) := by decide +kernel
theorem dX10_readPerson_75 : decode cX10_readPerson 75 = .ok (.getfield 15, 3) := by decide +kernel
theorem dX10_readPerson_78 : decode cX10_readPerson 78 = .ok (.iconst 0, 1) := by decide +kernel
theorem dX10_readPerson_79 : decode cX10_readPerson 79 = .ok (.bipush 20, 2) := by decide +kernel
theorem dX10_readPerson_81 : decode cX10_readPerson 81 = .ok (.invokevirtual 89, 3) := by decide +kernel
theorem dX10_readPerson_84 : decode cX10_readPerson 84 = .ok (.putfield 121, 3) := by decide +kernel
theorem dX10_readPerson_87 : decode cX10_readPerson 87 = .ok (.aload_n 1, 1) := by decide +kernel
theorem dX10_readPerson_88 : decode cX10_readPerson 88 = .ok (.dup, 1) := by decide +kernel
theorem dX10_readPerson_89 : decode cX10_readPerson 89 = .ok (.getfield 80, 3) := by decide +kernel
theorem dX10_readPerson_92 : decode cX10_readPerson 92 = .ok (.iconst 1, 1) := by decide +kernel
theorem dX10_readPerson_93 : decode cX10_readPerson 93 = .ok (.iadd, 1) := by decide +kernel
theorem dX10_readPerson_94 : decode cX10_readPerson 94 = .ok (.putfield 80, 3) := by decide +kernel
theorem dX10_readPerson_97 : decode cX10_readPerson 97 = .ok (.return_, 1) := by decide +kernel
noncomputable def f_X10_readPerson (G : GG) (v0 : Nat) (v1 : Nat) (h : AH) : Option (AH) :=
ck (m_t h v1 = .inl 9) <|
ob (m_r h v1 6) fun b2 =>
ck (ixb h b2 (.object RX5) (m_i h v1 5) = true) <|
ob (m_r h b2 (m_i h v1 5).toNatClampNeg) fun b5 =>
ck (m_t h v0 = .inl 10) <|
ob (m_r h v0 0) fun b7 =>
ck (m_t h b7 = .inl 8) <|
cb (lri 0 b7 (s_X8_takeNumber G (0 : Int32) (7 : Int32)) h) fun r11 h9 =>
ck (m_t h9 b5 = .inl 5) <|
nn (m_si h9 b5 0 r11) fun h13 =>
ck (m_t h13 v0 = .inl 10) <|
ob (m_r h13 v0 0) fun b15 =>
ck (m_t h13 b15 = .inl 8) <|
cb (lri 0 b15 (s_X8_takeNumber G (0 : Int32) (239 : Int32)) h13) fun r19 h17 =>
ck (m_t h17 b5 = .inl 5) <|
nn (m_si h17 b5 1 r19) fun h21 =>
ck (m_t h21 v0 = .inl 10) <|
ob (m_r h21 v0 0) fun b23 =>
ck (m_t h21 b23 = .inl 8) <|
cb (lri 0 b23 (s_X8_takeNumber G ((m_i h21 b5 1) + (1 : Int32)) (240 : Int32)) h21) fun r27 h25 =>
ck (m_t h25 b5 = .inl 5) <|
nn (m_si h25 b5 2 r27) fun h29 =>
ck (m_t h29 v0 = .inl 10) <|
ob (m_r h29 v0 0) fun b31 =>
ck (m_t h29 b31 = .inl 8) <|
cb (lri 0 b31 (s_X8_takeNumber G (0 : Int32) (60 : Int32)) h29) fun r35 h33 =>
ck (m_t h33 b5 = .inl 5) <|
nn (m_si h33 b5 3 r35) fun h37 =>
ck (m_t h37 v0 = .inl 10) <|
ob (m_r h37 v0 0) fun b39 =>
ck (m_t h37 b39 = .inl 8) <|
cb (lri 0 b39 (s_X8_takeNumber G (0 : Int32) (20 : Int32)) h37) fun r43 h41 =>
ck (m_t h41 b5 = .inl 5) <|
nn (m_si h41 b5 4 r43) fun h45 =>
ck (m_t h45 v1 = .inl 9) <|
nn (m_si h45 v1 5 ((m_i h45 v1 5) + (1 : Int32))) fun h47 =>
some h47
set_option maxHeartbeats 4000000 in
set_option maxRecDepth 100000 in
theorem ct_X10_readPerson {G : GG} {l : Launch} {v0 : Nat} {v1 : Nat} {h : AH} {y : AH} (hf : f_X10_readPerson G v0 v1 h = some y) : Ct G l yX10_readPerson cX10_readPerson 3 none 2 44 0 0 [.ref v0, .ref v1] h (none, y) := by
  refine ct_of (by decide) (Nat.le_of_ble_eq_true rfl) ?_
  intro p e s m args below meth c C hm hr hin
  have C : Cx G cX10_readPerson RX10 p s m args meth c := C
  refine e_lv (lv2 := [(0, .ref v0), (1, .ref v1)]) [0, 1] rfl ?_
  unfold f_X10_readPerson at hf
  refine e_aload_n (pc := 0) C dX10_readPerson_0 1 rfl rfl ?_
  obtain ⟨t1, hf⟩ := ck_e hf
  refine e_getrN (pc := 1) 9 6 C dX10_readPerson_1 (by decide) (by decide) g342 rfl t1 ?_
  obtain ⟨b2, eb2, hf⟩ := ob_e hf
  refine e_rf eb2 ?_
  refine e_aload_n (pc := 4) C dX10_readPerson_4 1 rfl rfl ?_
  refine e_getiN (pc := 5) 9 5 C dX10_readPerson_5 (by decide) (by decide) g338 rfl t1 ?_
  obtain ⟨q3, hf⟩ := ck_e hf
  obtain ⟨n4, tn4, in4⟩ := ix_e q3
  refine e_aald (pc := 8) 4 rfl C dX10_readPerson_8 tn4 in4 ?_
  obtain ⟨b5, eb5, hf⟩ := ob_e hf
  refine e_rf eb5 ?_
  refine e_astore_n (pc := 9) (lv2 := [(2, .ref b5), (0, .ref v0), (1, .ref v1)]) C hm dX10_readPerson_9 rfl (by decide) rfl ?_
  refine e_aload_n (pc := 10) C dX10_readPerson_10 0 rfl rfl ?_
  refine e_aload_n (pc := 11) C dX10_readPerson_11 1 rfl rfl ?_
  obtain ⟨t6, hf⟩ := ck_e hf
  refine e_getr (pc := 12) 10 0 C dX10_readPerson_12 (by decide) (by decide) g227 rfl t6 ?_
  obtain ⟨b7, eb7, hf⟩ := ob_e hf
  refine e_rf eb7 ?_
  refine e_iconst (v := (0 : Int32)) (pc := 15) C dX10_readPerson_15 (by decide) ?_
  refine e_bipush (v := (7 : Int32)) (pc := 16) C dX10_readPerson_16 (by decide) ?_
  obtain ⟨t8, hf⟩ := ck_e hf
  obtain ⟨r11, h9, y10, hf⟩ := cb_e hf
  refine e_callVi (pc := 18) (st := [.ref b5]) 8 C (lr_cti (o := 0) (fun hI => st_X8_takeNumber hI) y10) dX10_readPerson_18 (by decide) t8 g735 g736 g737 g147 g738 hd_X8_takeNumber rfl ⟨Nat.le_of_ble_eq_true rfl, Nat.le_of_ble_eq_true rfl⟩ ⟨Nat.le_of_ble_eq_true rfl, Nat.le_of_ble_eq_true rfl⟩ rfl (Nat.le_of_ble_eq_true rfl) ?_
  obtain ⟨t12, hf⟩ := ck_e hf
  refine e_putiN (pc := 21) 5 0 C dX10_readPerson_21 (by decide) (by decide) g273 rfl rfl rfl rfl t12 ?_
  obtain ⟨h13, eh13, hf⟩ := nn_e hf
  refine e_hp eh13 ?_
  have uh13 : m_t h13 = m_t h9 := by rw [eh13]; exact rfl
  refine e_aload_n (pc := 24) C dX10_readPerson_24 0 rfl rfl ?_
  refine e_aload_n (pc := 25) C dX10_readPerson_25 1 rfl rfl ?_
  obtain ⟨t14, hf⟩ := ck_e hf
  refine e_getr (pc := 26) 10 0 C dX10_readPerson_26 (by decide) (by decide) g227 rfl t14 ?_
  obtain ⟨b15, eb15, hf⟩ := ob_e hf
  refine e_rf eb15 ?_
  refine e_iconst (v := (0 : Int32)) (pc := 29) C dX10_readPerson_29 (by decide) ?_
  refine e_sipush (v := (239 : Int32)) (pc := 30) C dX10_readPerson_30 (by decide) ?_
  obtain ⟨t16, hf⟩ := ck_e hf
  obtain ⟨r19, h17, y18, hf⟩ := cb_e hf
  refine e_callVi (pc := 33) (st := [.ref b5]) 8 C (lr_cti (o := 0) (fun hI => st_X8_takeNumber hI) y18) dX10_readPerson_33 (by decide) t16 g735 g736 g737 g147 g738 hd_X8_takeNumber rfl ⟨Nat.le_of_ble_eq_true rfl, Nat.le_of_ble_eq_true rfl⟩ ⟨Nat.le_of_ble_eq_true rfl, Nat.le_of_ble_eq_true rfl⟩ rfl (Nat.le_of_ble_eq_true rfl) ?_
  obtain ⟨t20, hf⟩ := ck_e hf
  refine e_putiN (pc := 36) 5 1 C dX10_readPerson_36 (by decide) (by decide) g277 rfl rfl rfl rfl t20 ?_
  obtain ⟨h21, eh21, hf⟩ := nn_e hf
  refine e_hp eh21 ?_
  have uh21 : m_t h21 = m_t h17 := by rw [eh21]; exact rfl
  refine e_aload_n (pc := 39) C dX10_readPerson_39 0 rfl rfl ?_
  refine e_aload_n (pc := 40) C dX10_readPerson_40 1 rfl rfl ?_
  obtain ⟨t22, hf⟩ := ck_e hf
  refine e_getr (pc := 41) 10 0 C dX10_readPerson_41 (by decide) (by decide) g227 rfl t22 ?_
  obtain ⟨b23, eb23, hf⟩ := ob_e hf
  refine e_rf eb23 ?_
  refine e_aload_n (pc := 44) C dX10_readPerson_44 0 rfl rfl ?_
  refine e_getiN (pc := 45) 5 1 C dX10_readPerson_45 (by decide) (by decide) g277 rfl (e_mt uh21 t20) ?_
  refine e_iconst (v := (1 : Int32)) (pc := 48) C dX10_readPerson_48 (by decide) ?_
  refine e_iadd (pc := 49) C dX10_readPerson_49 ?_
  refine e_sipush (v := (240 : Int32)) (pc := 50) C dX10_readPerson_50 (by decide) ?_
  obtain ⟨t24, hf⟩ := ck_e hf
  obtain ⟨r27, h25, y26, hf⟩ := cb_e hf
  refine e_callVi (pc := 53) (st := [.ref b5]) 8 C (lr_cti (o := 0) (fun hI => st_X8_takeNumber hI) y26) dX10_readPerson_53 (by decide) t24 g735 g736 g737 g147 g738 hd_X8_takeNumber rfl ⟨Nat.le_of_ble_eq_true rfl, Nat.le_of_ble_eq_true rfl⟩ ⟨Nat.le_of_ble_eq_true rfl, Nat.le_of_ble_eq_true rfl⟩ rfl (Nat.le_of_ble_eq_true rfl) ?_
  obtain ⟨t28, hf⟩ := ck_e hf
  refine e_putiN (pc := 56) 5 2 C dX10_readPerson_56 (by decide) (by decide) g280 rfl rfl rfl rfl t28 ?_
  obtain ⟨h29, eh29, hf⟩ := nn_e hf
  refine e_hp eh29 ?_
  have uh29 : m_t h29 = m_t h25 := by rw [eh29]; exact rfl
  refine e_aload_n (pc := 59) C dX10_readPerson_59 0 rfl rfl ?_
  refine e_aload_n (pc := 60) C dX10_readPerson_60 1 rfl rfl ?_
  obtain ⟨t30, hf⟩ := ck_e hf
  refine e_getr (pc := 61) 10 0 C dX10_readPerson_61 (by decide) (by decide) g227 rfl t30 ?_
  obtain ⟨b31, eb31, hf⟩ := ob_e hf
  refine e_rf eb31 ?_
  refine e_iconst (v := (0 : Int32)) (pc := 64) C dX10_readPerson_64 (by decide) ?_
  refine e_bipush (v := (60 : Int32)) (pc := 65) C dX10_readPerson_65 (by decide) ?_
  obtain ⟨t32, hf⟩ := ck_e hf
  obtain ⟨r35, h33, y34, hf⟩ := cb_e hf
  refine e_callVi (pc := 67) (st := [.ref b5]) 8 C (lr_cti (o := 0) (fun hI => st_X8_takeNumber hI) y34) dX10_readPerson_67 (by decide) t32 g735 g736 g737 g147 g738 hd_X8_takeNumber rfl ⟨Nat.le_of_ble_eq_true rfl, Nat.le_of_ble_eq_true rfl⟩ ⟨Nat.le_of_ble_eq_true rfl, Nat.le_of_ble_eq_true rfl⟩ rfl (Nat.le_of_ble_eq_true rfl) ?_
  obtain ⟨t36, hf⟩ := ck_e hf
  refine e_putiN (pc := 70) 5 3 C dX10_readPerson_70 (by decide) (by decide) g283 rfl rfl rfl rfl t36 ?_
  obtain ⟨h37, eh37, hf⟩ := nn_e hf
  refine e_hp eh37 ?_
  have uh37 : m_t h37 = m_t h33 := by rw [eh37]; exact rfl
  refine e_aload_n (pc := 73) C dX10_readPerson_73 0 rfl rfl ?_
  refine e_aload_n (pc := 74) C dX10_readPerson_74 1 rfl rfl ?_
  obtain ⟨t38, hf⟩ := ck_e hf
  refine e_getr (pc := 75) 10 0 C dX10_readPerson_75 (by decide) (by decide) g227 rfl t38 ?_
  obtain ⟨b39, eb39, hf⟩ := ob_e hf
  refine e_rf eb39 ?_
  refine e_iconst (v := (0 : Int32)) (pc := 78) C dX10_readPerson_78 (by decide) ?_
  refine e_bipush (v := (20 : Int32)) (pc := 79) C dX10_readPerson_79 (by decide) ?_
  obtain ⟨t40, hf⟩ := ck_e hf
  obtain ⟨r43, h41, y42, hf⟩ := cb_e hf
  refine e_callVi (pc := 81) (st := [.ref b5]) 8 C (lr_cti (o := 0) (fun hI => st_X8_takeNumber hI) y42) dX10_readPerson_81 (by decide) t40 g735 g736 g737 g147 g738 hd_X8_takeNumber rfl ⟨Nat.le_of_ble_eq_true rfl, Nat.le_of_ble_eq_true rfl⟩ ⟨Nat.le_of_ble_eq_true rfl, Nat.le_of_ble_eq_true rfl⟩ rfl (Nat.le_of_ble_eq_true rfl) ?_
  obtain ⟨t44, hf⟩ := ck_e hf
  refine e_putiN (pc := 84) 5 4 C dX10_readPerson_84 (by decide) (by decide) g287 rfl rfl rfl rfl t44 ?_
  obtain ⟨h45, eh45, hf⟩ := nn_e hf
  refine e_hp eh45 ?_
  have uh45 : m_t h45 = m_t h41 := by rw [eh45]; exact rfl
  refine e_aload_n (pc := 87) C dX10_readPerson_87 2 rfl rfl ?_
  refine e_dup (pc := 88) C dX10_readPerson_88 rfl ?_
  obtain ⟨t46, hf⟩ := ck_e hf
  refine e_getiN (pc := 89) 9 5 C dX10_readPerson_89 (by decide) (by decide) g338 rfl t46 ?_
  refine e_iconst (v := (1 : Int32)) (pc := 92) C dX10_readPerson_92 (by decide) ?_
  refine e_iadd (pc := 93) C dX10_readPerson_93 ?_
  refine e_putiN (pc := 94) 9 5 C dX10_readPerson_94 (by decide) (by decide) g338 rfl rfl rfl rfl t46 ?_
  obtain ⟨h47, eh47, hf⟩ := nn_e hf
  refine e_hp eh47 ?_
  have uh47 : m_t h47 = m_t h41 := by rw [eh47]; exact uh45
  obtain rfl := so_e hf
  exact e_vret (pc := 97) C hr dX10_readPerson_97 (Nat.le_of_ble_eq_true rfl) (Nat.le_of_ble_eq_true rfl)
theorem dX10_readFront_0 : decode cX10_readFront 0 = .ok (.aload_n 0, 1) := by decide +kernel
theorem dX10_readFront_1 : decode cX10_readFront 1 = .ok (.getfield 15, 3) := by decide +kernel
theorem dX10_readFront_4 : decode cX10_readFront 4 = .ok (.iconst 0, 1) := by decide +kernel
theorem dX10_readFront_5 : decode cX10_readFront 5 = .ok (.aload_n 1, 1) := by decide +kernel
theorem dX10_readFront_6 : decode cX10_readFront 6 = .ok (.getfield 80, 3) := by decide +kernel
theorem dX10_readFront_9 : decode cX10_readFront 9 = .ok (.iconst 1, 1) := by decide +kernel
theorem dX10_readFront_10 : decode cX10_readFront 10 = .ok (.isub, 1) := by decide +kernel
theorem dX10_readFront_11 : decode cX10_readFront 11 = .ok (.invokevirtual 89, 3) := by decide +kernel
theorem dX10_readFront_14 : decode cX10_readFront 14 = .ok (.istore_n 2, 1) := by decide +kernel
theorem dX10_readFront_15 : decode cX10_readFront 15 = .ok (.aload_n 1, 1) := by decide +kernel
theorem dX10_readFront_16 : decode cX10_readFront 16 = .ok (.iload_n 2, 1) := by decide +kernel
theorem dX10_readFront_17 : decode cX10_readFront 17 = .ok (.invokevirtual 124, 3) := by decide +kernel
theorem dX10_readFront_20 : decode cX10_readFront 20 = .ok (.ifCond .eq 13, 3) := by decide +kernel
theorem dX10_readFront_23 : decode cX10_readFront 23 = .ok (.aload_n 1, 1) := by decide +kernel
theorem dX10_readFront_24 : decode cX10_readFront 24 = .ok (.getfield 105, 3) := by decide +kernel
theorem dX10_readFront_27 : decode cX10_readFront 27 = .ok (.iload_n 2, 1) := by decide +kernel
theorem dX10_readFront_28 : decode cX10_readFront 28 = .ok (.aaload, 1) := by decide +kernel
theorem dX10_readFront_29 : decode cX10_readFront 29 = .ok (.iconst 1, 1) := by decide +kernel
theorem dX10_readFront_30 : decode cX10_readFront 30 = .ok (.putfield 128, 3) := by decide +kernel
theorem dX10_readFront_33 : decode cX10_readFront 33 = .ok (.return_, 1) := by decide +kernel
noncomputable def f_X10_readFront (G : GG) (v0 : Nat) (v1 : Nat) (h : AH) : Option (AH) :=
ck (m_t h v0 = .inl 10) <|
ob (m_r h v0 0) fun b2 =>
ck (m_t h v1 = .inl 9) <|
ck (m_t h b2 = .inl 8) <|
cb (lri 0 b2 (s_X8_takeNumber G (0 : Int32) ((m_i h v1 5) - (1 : Int32))) h) fun r7 h5 =>
ck (m_t h5 v1 = .inl 9) <|
cb (f_X9_hasPerson G v1 r7 h5) fun r11 h9 =>
if r11 = 0 then (some h9) else
ck (m_t h9 v1 = .inl 9) <|
ob (m_r h9 v1 6) fun b14 =>
ck (ixb h9 b14 (.object RX5) r7 = true) <|
ob (m_r h9 b14 r7.toNatClampNeg) fun b17 =>
ck (m_t h9 b17 = .inl 5) <|
nn (m_si h9 b17 6 (1 : Int32)) fun h19 =>
some h19
set_option maxHeartbeats 4000000 in
set_option maxRecDepth 100000 in
theorem ct_X10_readFront {G : GG} {l : Launch} {v0 : Nat} {v1 : Nat} {h : AH} {y : AH} (hf : f_X10_readFront G v0 v1 h = some y) : Ct G l yX10_readFront cX10_readFront 3 none 2 44 0 0 [.ref v0, .ref v1] h (none, y) := by
  refine ct_of (by decide) (Nat.le_of_ble_eq_true rfl) ?_
  intro p e s m args below meth c C hm hr hin
  have C : Cx G cX10_readFront RX10 p s m args meth c := C
  refine e_lv (lv2 := [(0, .ref v0), (1, .ref v1)]) [0, 1] rfl ?_
  unfold f_X10_readFront at hf
  refine e_aload_n (pc := 0) C dX10_readFront_0 0 rfl rfl ?_
  obtain ⟨t1, hf⟩ := ck_e hf
  refine e_getr (pc := 1) 10 0 C dX10_readFront_1 (by decide) (by decide) g227 rfl t1 ?_
  obtain ⟨b2, eb2, hf⟩ := ob_e hf
  refine e_rf eb2 ?_
  refine e_iconst (v := (0 : Int32)) (pc := 4) C dX10_readFront_4 (by decide) ?_
  refine e_aload_n (pc := 5) C dX10_readFront_5 1 rfl rfl ?_
  obtain ⟨t3, hf⟩ := ck_e hf
  refine e_getiN (pc := 6) 9 5 C dX10_readFront_6 (by decide) (by decide) g338 rfl t3 ?_
  refine e_iconst (v := (1 : Int32)) (pc := 9) C dX10_readFront_9 (by decide) ?_
  refine e_isub (pc := 10) C dX10_readFront_10 ?_
  obtain ⟨t4, hf⟩ := ck_e hf
  obtain ⟨r7, h5, y6, hf⟩ := cb_e hf
  refine e_callVi (pc := 11) (st := []) 8 C (lr_cti (o := 0) (fun hI => st_X8_takeNumber hI) y6) dX10_readFront_11 (by decide) t4 g735 g736 g737 g147 g738 hd_X8_takeNumber rfl ⟨Nat.le_of_ble_eq_true rfl, Nat.le_of_ble_eq_true rfl⟩ ⟨Nat.le_of_ble_eq_true rfl, Nat.le_of_ble_eq_true rfl⟩ rfl (Nat.le_of_ble_eq_true rfl) ?_
  refine e_istore_n (pc := 14) (lv2 := [(2, .int r7), (0, .ref v0), (1, .ref v1)]) C hm dX10_readFront_14 rfl (by decide) rfl ?_
  refine e_aload_n (pc := 15) C dX10_readFront_15 2 rfl rfl ?_
  refine e_iload_n (pc := 16) C dX10_readFront_16 0 rfl rfl ?_
  obtain ⟨t8, hf⟩ := ck_e hf
  obtain ⟨r11, h9, y10, hf⟩ := cb_e hf
  refine e_callVi (pc := 17) (st := []) 9 C (ct_X9_hasPerson y10) dX10_readFront_17 (by decide) t8 g752 g753 g754 g152 g755 hd_X9_hasPerson rfl ⟨Nat.le_of_ble_eq_true rfl, Nat.le_of_ble_eq_true rfl⟩ ⟨Nat.le_of_ble_eq_true rfl, Nat.le_of_ble_eq_true rfl⟩ rfl (Nat.le_of_ble_eq_true rfl) ?_
  rcases it_e hf with ⟨c12, hf⟩ | ⟨c12, hf⟩
  · refine e_if_eq (pc := 20) (tgt := 33) C dX10_readFront_20 (by decide) (fun _ => ?_) (fun q => absurd c12 q)
    obtain rfl := so_e hf
    exact e_vret (pc := 33) C hr dX10_readFront_33 (Nat.le_of_ble_eq_true rfl) (Nat.le_of_ble_eq_true rfl)
  · refine e_if_eq (pc := 20) (tgt := 33) C dX10_readFront_20 (by decide) (fun q => absurd q c12) (fun _ => ?_)
    refine e_aload_n (pc := 23) C dX10_readFront_23 2 rfl rfl ?_
    obtain ⟨t13, hf⟩ := ck_e hf
    refine e_getrN (pc := 24) 9 6 C dX10_readFront_24 (by decide) (by decide) g342 rfl t13 ?_
    obtain ⟨b14, eb14, hf⟩ := ob_e hf
    refine e_rf eb14 ?_
    refine e_iload_n (pc := 27) C dX10_readFront_27 0 rfl rfl ?_
    obtain ⟨q15, hf⟩ := ck_e hf
    obtain ⟨n16, tn16, in16⟩ := ix_e q15
    refine e_aald (pc := 28) 4 rfl C dX10_readFront_28 tn16 in16 ?_
    obtain ⟨b17, eb17, hf⟩ := ob_e hf
    refine e_rf eb17 ?_
    refine e_iconst (v := (1 : Int32)) (pc := 29) C dX10_readFront_29 (by decide) ?_
    obtain ⟨t18, hf⟩ := ck_e hf
    refine e_putiN (pc := 30) 5 6 C dX10_readFront_30 (by decide) (by decide) g295 rfl rfl rfl (nz_ok (by decide)) t18 ?_
    obtain ⟨h19, eh19, hf⟩ := nn_e hf
    refine e_hp eh19 ?_
    have uh19 : m_t h19 = m_t h9 := by rw [eh19]; exact rfl
    obtain rfl := so_e hf
    exact e_vret (pc := 33) C hr dX10_readFront_33 (Nat.le_of_ble_eq_true rfl) (Nat.le_of_ble_eq_true rfl)
theorem dX10_readSays_0 : decode cX10_readSays 0 = .ok (.aload_n 0, 1) := by decide +kernel
theorem dX10_readSays_1 : decode cX10_readSays 1 = .ok (.getfield 15, 3) := by decide +kernel
theorem dX10_readSays_4 : decode cX10_readSays 4 = .ok (.iconst 0, 1) := by decide +kernel
theorem dX10_readSays_5 : decode cX10_readSays 5 = .ok (.aload_n 1, 1) := by decide +kernel
theorem dX10_readSays_6 : decode cX10_readSays 6 = .ok (.getfield 80, 3) := by decide +kernel
theorem dX10_readSays_9 : decode cX10_readSays 9 = .ok (.iconst 1, 1) := by decide +kernel
theorem dX10_readSays_10 : decode cX10_readSays 10 = .ok (.isub, 1) := by decide +kernel
theorem dX10_readSays_11 : decode cX10_readSays 11 = .ok (.invokevirtual 89, 3) := by decide +kernel
theorem dX10_readSays_14 : decode cX10_readSays 14 = .ok (.istore_n 2, 1) := by decide +kernel
theorem dX10_readSays_15 : decode cX10_readSays 15 = .ok (.aload_n 0, 1) := by decide +kernel
theorem dX10_readSays_16 : decode cX10_readSays 16 = .ok (.getfield 15, 3) := by decide +kernel
theorem dX10_readSays_19 : decode cX10_readSays 19 = .ok (.iconst 0, 1) := by decide +kernel
theorem dX10_readSays_20 : decode cX10_readSays 20 = .ok (.bipush 18, 2) := by decide +kernel
theorem dX10_readSays_22 : decode cX10_readSays 22 = .ok (.invokevirtual 89, 3) := by decide +kernel
theorem dX10_readSays_25 : decode cX10_readSays 25 = .ok (.istore_n 3, 1) := by decide +kernel
theorem dX10_readSays_26 : decode cX10_readSays 26 = .ok (.aload_n 1, 1) := by decide +kernel
theorem dX10_readSays_27 : decode cX10_readSays 27 = .ok (.iload_n 2, 1) := by decide +kernel
theorem dX10_readSays_28 : decode cX10_readSays 28 = .ok (.invokevirtual 124, 3) := by decide +kernel
theorem dX10_readSays_31 : decode cX10_readSays 31 = .ok (.ifCond .eq 16, 3) := by decide +kernel
theorem dX10_readSays_34 : decode cX10_readSays 34 = .ok (.aload_n 1, 1) := by decide +kernel
theorem dX10_readSays_35 : decode cX10_readSays 35 = .ok (.getfield 105, 3) := by decide +kernel
theorem dX10_readSays_38 : decode cX10_readSays 38 = .ok (.iload_n 2, 1) := by decide +kernel
theorem dX10_readSays_39 : decode cX10_readSays 39 = .ok (.aaload, 1) := by decide +kernel
theorem dX10_readSays_40 : decode cX10_readSays 40 = .ok (.iload_n 3, 1) := by decide +kernel
theorem dX10_readSays_41 : decode cX10_readSays 41 = .ok (.bipush 9, 2) := by decide +kernel
theorem dX10_readSays_43 : decode cX10_readSays 43 = .ok (.isub, 1) := by decide +kernel
theorem dX10_readSays_44 : decode cX10_readSays 44 = .ok (.putfield 131, 3) := by decide +kernel
theorem dX10_readSays_47 : decode cX10_readSays 47 = .ok (.return_, 1) := by decide +kernel
noncomputable def f_X10_readSays (G : GG) (v0 : Nat) (v1 : Nat) (h : AH) : Option (AH) :=
ck (m_t h v0 = .inl 10) <|
ob (m_r h v0 0) fun b2 =>
ck (m_t h v1 = .inl 9) <|
ck (m_t h b2 = .inl 8) <|
cb (lri 0 b2 (s_X8_takeNumber G (0 : Int32) ((m_i h v1 5) - (1 : Int32))) h) fun r7 h5 =>
ck (m_t h5 v0 = .inl 10) <|
ob (m_r h5 v0 0) fun b9 =>
ck (m_t h5 b9 = .inl 8) <|
cb (lri 0 b9 (s_X8_takeNumber G (0 : Int32) (18 : Int32)) h5) fun r13 h11 =>
ck (m_t h11 v1 = .inl 9) <|
cb (f_X9_hasPerson G v1 r7 h11) fun r17 h15 =>
if r17 = 0 then (some h15) else
ck (m_t h15 v1 = .inl 9) <|
ob (m_r h15 v1 6) fun b20 =>
ck (ixb h15 b20 (.object RX5) r7 = true) <|
ob (m_r h15 b20 r7.toNatClampNeg) fun b23 =>
ck (m_t h15 b23 = .inl 5) <|
nn (m_si h15 b23 5 (r13 - (9 : Int32))) fun h25 =>
some h25
set_option maxHeartbeats 4000000 in
set_option maxRecDepth 100000 in
theorem ct_X10_readSays {G : GG} {l : Launch} {v0 : Nat} {v1 : Nat} {h : AH} {y : AH} (hf : f_X10_readSays G v0 v1 h = some y) : Ct G l yX10_readSays cX10_readSays 4 none 2 44 0 0 [.ref v0, .ref v1] h (none, y) := by
  refine ct_of (by decide) (Nat.le_of_ble_eq_true rfl) ?_
  intro p e s m args below meth c C hm hr hin
  have C : Cx G cX10_readSays RX10 p s m args meth c := C
  refine e_lv (lv2 := [(0, .ref v0), (1, .ref v1)]) [0, 1] rfl ?_
  unfold f_X10_readSays at hf
  refine e_aload_n (pc := 0) C dX10_readSays_0 0 rfl rfl ?_
  obtain ⟨t1, hf⟩ := ck_e hf
  refine e_getr (pc := 1) 10 0 C dX10_readSays_1 (by decide) (by decide) g227 rfl t1 ?_
  obtain ⟨b2, eb2, hf⟩ := ob_e hf
  refine e_rf eb2 ?_
  refine e_iconst (v := (0 : Int32)) (pc := 4) C dX10_readSays_4 (by decide) ?_
  refine e_aload_n (pc := 5) C dX10_readSays_5 1 rfl rfl ?_
  obtain ⟨t3, hf⟩ := ck_e hf
  refine e_getiN (pc := 6) 9 5 C dX10_readSays_6 (by decide) (by decide) g338 rfl t3 ?_
  refine e_iconst (v := (1 : Int32)) (pc := 9) C dX10_readSays_9 (by decide) ?_
  refine e_isub (pc := 10) C dX10_readSays_10 ?_
  obtain ⟨t4, hf⟩ := ck_e hf
  obtain ⟨r7, h5, y6, hf⟩ := cb_e hf
  refine e_callVi (pc := 11) (st := []) 8 C (lr_cti (o := 0) (fun hI => st_X8_takeNumber hI) y6) dX10_readSays_11 (by decide) t4 g735 g736 g737 g147 g738 hd_X8_takeNumber rfl ⟨Nat.le_of_ble_eq_true rfl, Nat.le_of_ble_eq_true rfl⟩ ⟨Nat.le_of_ble_eq_true rfl, Nat.le_of_ble_eq_true rfl⟩ rfl (Nat.le_of_ble_eq_true rfl) ?_
  refine e_istore_n (pc := 14) (lv2 := [(2, .int r7), (0, .ref v0), (1, .ref v1)]) C hm dX10_readSays_14 rfl (by decide) rfl ?_
  refine e_aload_n (pc := 15) C dX10_readSays_15 1 rfl rfl ?_
  obtain ⟨t8, hf⟩ := ck_e hf
  refine e_getr (pc := 16) 10 0 C dX10_readSays_16 (by decide) (by decide) g227 rfl t8 ?_
  obtain ⟨b9, eb9, hf⟩ := ob_e hf
  refine e_rf eb9 ?_
  refine e_iconst (v := (0 : Int32)) (pc := 19) C dX10_readSays_19 (by decide) ?_
  refine e_bipush (v := (18 : Int32)) (pc := 20) C dX10_readSays_20 (by decide) ?_
  obtain ⟨t10, hf⟩ := ck_e hf
  obtain ⟨r13, h11, y12, hf⟩ := cb_e hf
  refine e_callVi (pc := 22) (st := []) 8 C (lr_cti (o := 0) (fun hI => st_X8_takeNumber hI) y12) dX10_readSays_22 (by decide) t10 g735 g736 g737 g147 g738 hd_X8_takeNumber rfl ⟨Nat.le_of_ble_eq_true rfl, Nat.le_of_ble_eq_true rfl⟩ ⟨Nat.le_of_ble_eq_true rfl, Nat.le_of_ble_eq_true rfl⟩ rfl (Nat.le_of_ble_eq_true rfl) ?_
  refine e_istore_n (pc := 25) (lv2 := [(3, .int r13), (2, .int r7), (0, .ref v0), (1, .ref v1)]) C hm dX10_readSays_25 rfl (by decide) rfl ?_
  refine e_aload_n (pc := 26) C dX10_readSays_26 3 rfl rfl ?_
  refine e_iload_n (pc := 27) C dX10_readSays_27 1 rfl rfl ?_
  obtain ⟨t14, hf⟩ := ck_e hf
  obtain ⟨r17, h15, y16, hf⟩ := cb_e hf
  refine e_callVi (pc := 28) (st := []) 9 C (ct_X9_hasPerson y16) dX10_readSays_28 (by decide) t14 g752 g753 g754 g152 g755 hd_X9_hasPerson rfl ⟨Nat.le_of_ble_eq_true rfl, Nat.le_of_ble_eq_true rfl⟩ ⟨Nat.le_of_ble_eq_true rfl, Nat.le_of_ble_eq_true rfl⟩ rfl (Nat.le_of_ble_eq_true rfl) ?_
  rcases it_e hf with ⟨c18, hf⟩ | ⟨c18, hf⟩
  · refine e_if_eq (pc := 31) (tgt := 47) C dX10_readSays_31 (by decide) (fun _ => ?_) (fun q => absurd c18 q)
    obtain rfl := so_e hf
    exact e_vret (pc := 47) C hr dX10_readSays_47 (Nat.le_of_ble_eq_true rfl) (Nat.le_of_ble_eq_true rfl)
  · refine e_if_eq (pc := 31) (tgt := 47) C dX10_readSays_31 (by decide) (fun q => absurd q c18) (fun _ => ?_)
    refine e_aload_n (pc := 34) C dX10_readSays_34 3 rfl rfl ?_
    obtain ⟨t19, hf⟩ := ck_e hf
    refine e_getrN (pc := 35) 9 6 C dX10_readSays_35 (by decide) (by decide) g342 rfl t19 ?_
    obtain ⟨b20, eb20, hf⟩ := ob_e hf
    refine e_rf eb20 ?_
    refine e_iload_n (pc := 38) C dX10_readSays_38 1 rfl rfl ?_
    obtain ⟨q21, hf⟩ := ck_e hf
    obtain ⟨n22, tn22, in22⟩ := ix_e q21
    refine e_aald (pc := 39) 4 rfl C dX10_readSays_39 tn22 in22 ?_
    obtain ⟨b23, eb23, hf⟩ := ob_e hf
    refine e_rf eb23 ?_
    refine e_iload_n (pc := 40) C dX10_readSays_40 0 rfl rfl ?_
    refine e_bipush (v := (9 : Int32)) (pc := 41) C dX10_readSays_41 (by decide) ?_
    refine e_isub (pc := 43) C dX10_readSays_43 ?_
    obtain ⟨t24, hf⟩ := ck_e hf
    refine e_putiN (pc := 44) 5 5 C dX10_readSays_44 (by decide) (by decide) g292 rfl rfl rfl rfl t24 ?_
    obtain ⟨h25, eh25, hf⟩ := nn_e hf
    refine e_hp eh25 ?_
    have uh25 : m_t h25 = m_t h15 := by rw [eh25]; exact rfl
    obtain rfl := so_e hf
    exact e_vret (pc := 47) C hr dX10_readSays_47 (Nat.le_of_ble_eq_true rfl) (Nat.le_of_ble_eq_true rfl)
theorem dX10_readTunnel_0 : decode cX10_readTunnel 0 = .ok (.aload_n 0, 1) := by decide +kernel
theorem dX10_readTunnel_1 : decode cX10_readTunnel 1 = .ok (.getfield 15, 3) := by decide +kernel
theorem dX10_readTunnel_4 : decode cX10_readTunnel 4 = .ok (.iconst 0, 1) := by decide +kernel
theorem dX10_readTunnel_5 : decode cX10_readTunnel 5 = .ok (.sipush 239, 3) := by decide +kernel
theorem dX10_readTunnel_8 : decode cX10_readTunnel 8 = .ok (.invokevirtual 89, 3) := by decide +kernel
theorem dX10_readTunnel_11 : decode cX10_readTunnel 11 = .ok (.istore_n 2, 1) := by decide +kernel
theorem dX10_readTunnel_12 : decode cX10_readTunnel 12 = .ok (.aload_n 1, 1) := by decide +kernel
theorem dX10_readTunnel_13 : decode cX10_readTunnel 13 = .ok (.getfield 134, 3) := by decide +kernel
theorem dX10_readTunnel_16 : decode cX10_readTunnel 16 = .ok (.aload_n 1, 1) := by decide +kernel
theorem dX10_readTunnel_17 : decode cX10_readTunnel 17 = .ok (.getfield 83, 3) := by decide +kernel
theorem dX10_readTunnel_20 : decode cX10_readTunnel 20 = .ok (.iload_n 2, 1) := by decide +kernel
theorem dX10_readTunnel_21 : decode cX10_readTunnel 21 = .ok (.iastore, 1) := by decide +kernel
theorem dX10_readTunnel_22 : decode cX10_readTunnel 22 = .ok (.aload_n 1, 1) := by decide +kernel
theorem dX10_readTunnel_23 : decode cX10_readTunnel 23 = .ok (.getfield 138, 3) := by decide +kernel
theorem dX10_readTunnel_26 : decode cX10_readTunnel 26 = .ok (.aload_n 1, 1) := by decide +kernel
theorem dX10_readTunnel_27 : decode cX10_readTunnel 27 = .ok (.getfield 83, 3) := by decide +kernel
theorem dX10_readTunnel_30 : decode cX10_readTunnel 30 = .ok (.aload_n 0, 1) := by decide +kernel
theorem dX10_readTunnel_31 : decode cX10_readTunnel 31 = .ok (.getfield 15, 3) := by decide +kernel
theorem dX10_readTunnel_34 : decode cX10_readTunnel 34 = .ok (.iload_n 2, 1) := by decide +kernel
theorem dX10_readTunnel_35 : decode cX10_readTunnel 35 = .ok (.sipush 239, 3) := by decide +kernel
theorem dX10_readTunnel_38 : decode cX10_readTunnel 38 = .ok (.invokevirtual 89, 3) := by decide +kernel
theorem dX10_readTunnel_41 : decode cX10_readTunnel 41 = .ok (.iastore, 1) := by decide +kernel
theorem dX10_readTunnel_42 : decode cX10_readTunnel 42 = .ok (.aload_n 1, 1) := by decide +kernel
theorem dX10_readTunnel_43 : decode cX10_readTunnel 43 = .ok (.dup, 1) := by decide +kernel
theorem dX10_readTunnel_44 : decode cX10_readTunnel 44 = .ok (.getfield 83, 3) := by decide +kernel
theorem dX10_readTunnel_47 : decode cX10_readTunnel 47 = .ok (.iconst 1, 1) := by decide +kernel
theorem dX10_readTunnel_48 : decode cX10_readTunnel 48 = .ok (.iadd, 1) := by decide +kernel
theorem dX10_readTunnel_49 : decode cX10_readTunnel 49 = .ok (.putfield 83, 3) := by decide +kernel
theorem dX10_readTunnel_52 : decode cX10_readTunnel 52 = .ok (.return_, 1) := by decide +kernel
noncomputable def f_X10_readTunnel (G : GG) (v0 : Nat) (v1 : Nat) (h : AH) : Option (AH) :=
ck (m_t h v0 = .inl 10) <|
ob (m_r h v0 0) fun b2 =>
ck (m_t h b2 = .inl 8) <|
cb (lri 0 b2 (s_X8_takeNumber G (0 : Int32) (239 : Int32)) h) fun r6 h4 =>
ck (m_t h4 v1 = .inl 9) <|
ob (m_r h4 v1 8) fun b8 =>
ck (ixb h4 b8 .int (m_i h4 v1 7) = true) <|
nn (m_si h4 b8 (m_i h4 v1 7).toNatClampNeg r6) fun h11 =>
ob (m_r h11 v1 9) fun b12 =>
ck (m_t h11 v0 = .inl 10) <|
ob (m_r h11 v0 0) fun b14 =>
ck (m_t h11 b14 = .inl 8) <|
cb (lri 0 b14 (s_X8_takeNumber G r6 (239 : Int32)) h11) fun r18 h16 =>
ck (ixb h16 b12 .int (m_i h11 v1 7) = true) <|
nn (m_si h16 b12 (m_i h11 v1 7).toNatClampNeg r18) fun h21 =>
ck (m_t h21 v1 = .inl 9) <|
nn (m_si h21 v1 7 ((m_i h21 v1 7) + (1 : Int32))) fun h23 =>
some h23
set_option maxHeartbeats 4000000 in
set_option maxRecDepth 100000 in
theorem ct_X10_readTunnel {G : GG} {l : Launch} {v0 : Nat} {v1 : Nat} {h : AH} {y : AH} (hf : f_X10_readTunnel G v0 v1 h = some y) : Ct G l yX10_readTunnel cX10_readTunnel 3 none 2 44 0 0 [.ref v0, .ref v1] h (none, y) := by
  refine ct_of (by decide) (Nat.le_of_ble_eq_true rfl) ?_
  intro p e s m args below meth c C hm hr hin
  have C : Cx G cX10_readTunnel RX10 p s m args meth c := C
  refine e_lv (lv2 := [(0, .ref v0), (1, .ref v1)]) [0, 1] rfl ?_
  unfold f_X10_readTunnel at hf
  refine e_aload_n (pc := 0) C dX10_readTunnel_0 0 rfl rfl ?_
  obtain ⟨t1, hf⟩ := ck_e hf
  refine e_getr (pc := 1) 10 0 C dX10_readTunnel_1 (by decide) (by decide) g227 rfl t1 ?_
  obtain ⟨b2, eb2, hf⟩ := ob_e hf
  refine e_rf eb2 ?_
  refine e_iconst (v := (0 : Int32)) (pc := 4) C dX10_readTunnel_4 (by decide) ?_
  refine e_sipush (v := (239 : Int32)) (pc := 5) C dX10_readTunnel_5 (by decide) ?_
  obtain ⟨t3, hf⟩ := ck_e hf
  obtain ⟨r6, h4, y5, hf⟩ := cb_e hf
  refine e_callVi (pc := 8) (st := []) 8 C (lr_cti (o := 0) (fun hI => st_X8_takeNumber hI) y5) dX10_readTunnel_8 (by decide) t3 g735 g736 g737 g147 g738 hd_X8_takeNumber rfl ⟨Nat.le_of_ble_eq_true rfl, Nat.le_of_ble_eq_true rfl⟩ ⟨Nat.le_of_ble_eq_true rfl, Nat.le_of_ble_eq_true rfl⟩ rfl (Nat.le_of_ble_eq_true rfl) ?_
  refine e_istore_n (pc := 11) (lv2 := [(2, .int r6), (0, .ref v0), (1, .ref v1)]) C hm dX10_readTunnel_11 rfl (by decide) rfl ?_
  refine e_aload_n (pc := 12) C dX10_readTunnel_12 2 rfl rfl ?_
  obtain ⟨t7, hf⟩ := ck_e hf
  refine e_getrN (pc := 13) 9 8 C dX10_readTunnel_13 (by decide) (by decide) g348 rfl t7 ?_
  obtain ⟨b8, eb8, hf⟩ := ob_e hf
  refine e_rf eb8 ?_
  refine e_aload_n (pc := 16) C dX10_readTunnel_16 2 rfl rfl ?_
  refine e_getiN (pc := 17) 9 7 C dX10_readTunnel_17 (by decide) (by decide) g345 rfl t7 ?_
  refine e_iload_n (pc := 20) C dX10_readTunnel_20 0 rfl rfl ?_
  obtain ⟨q9, hf⟩ := ck_e hf
  obtain ⟨n10, tn10, in10⟩ := ix_e q9
  refine e_iast (pc := 21) C dX10_readTunnel_21 tn10 in10 ?_
  obtain ⟨h11, eh11, hf⟩ := nn_e hf
  refine e_hp eh11 ?_
  have uh11 : m_t h11 = m_t h4 := by rw [eh11]; exact rfl
  refine e_aload_n (pc := 22) C dX10_readTunnel_22 2 rfl rfl ?_
  refine e_getrN (pc := 23) 9 9 C dX10_readTunnel_23 (by decide) (by decide) g350 rfl (e_mt uh11 t7) ?_
  obtain ⟨b12, eb12, hf⟩ := ob_e hf
  refine e_rf eb12 ?_
  refine e_aload_n (pc := 26) C dX10_readTunnel_26 2 rfl rfl ?_
  refine e_getiN (pc := 27) 9 7 C dX10_readTunnel_27 (by decide) (by decide) g345 rfl (e_mt uh11 t7) ?_
  refine e_aload_n (pc := 30) C dX10_readTunnel_30 1 rfl rfl ?_
  obtain ⟨t13, hf⟩ := ck_e hf
  refine e_getr (pc := 31) 10 0 C dX10_readTunnel_31 (by decide) (by decide) g227 rfl t13 ?_
  obtain ⟨b14, eb14, hf⟩ := ob_e hf
  refine e_rf eb14 ?_
  refine e_iload_n (pc := 34) C dX10_readTunnel_34 0 rfl rfl ?_
  refine e_sipush (v := (239 : Int32)) (pc := 35) C dX10_readTunnel_35 (by decide) ?_
  obtain ⟨t15, hf⟩ := ck_e hf
  obtain ⟨r18, h16, y17, hf⟩ := cb_e hf
  refine e_callVi (pc := 38) (st := [.int (m_i h11 v1 7), .ref b12]) 8 C (lr_cti (o := 0) (fun hI => st_X8_takeNumber hI) y17) dX10_readTunnel_38 (by decide) t15 g735 g736 g737 g147 g738 hd_X8_takeNumber rfl ⟨Nat.le_of_ble_eq_true rfl, Nat.le_of_ble_eq_true rfl⟩ ⟨Nat.le_of_ble_eq_true rfl, Nat.le_of_ble_eq_true rfl⟩ rfl (Nat.le_of_ble_eq_true rfl) ?_
  obtain ⟨q19, hf⟩ := ck_e hf
  obtain ⟨n20, tn20, in20⟩ := ix_e q19
  refine e_iast (pc := 41) C dX10_readTunnel_41 tn20 in20 ?_
  obtain ⟨h21, eh21, hf⟩ := nn_e hf
  refine e_hp eh21 ?_
  have uh21 : m_t h21 = m_t h16 := by rw [eh21]; exact rfl
  refine e_aload_n (pc := 42) C dX10_readTunnel_42 2 rfl rfl ?_
  refine e_dup (pc := 43) C dX10_readTunnel_43 rfl ?_
  obtain ⟨t22, hf⟩ := ck_e hf
  refine e_getiN (pc := 44) 9 7 C dX10_readTunnel_44 (by decide) (by decide) g345 rfl t22 ?_
  refine e_iconst (v := (1 : Int32)) (pc := 47) C dX10_readTunnel_47 (by decide) ?_
  refine e_iadd (pc := 48) C dX10_readTunnel_48 ?_
  refine e_putiN (pc := 49) 9 7 C dX10_readTunnel_49 (by decide) (by decide) g345 rfl rfl rfl rfl t22 ?_
  obtain ⟨h23, eh23, hf⟩ := nn_e hf
  refine e_hp eh23 ?_
  have uh23 : m_t h23 = m_t h16 := by rw [eh23]; exact uh21
  obtain rfl := so_e hf
  exact e_vret (pc := 52) C hr dX10_readTunnel_52 (Nat.le_of_ble_eq_true rfl) (Nat.le_of_ble_eq_true rfl)
theorem dX10_readCold_0 : decode cX10_readCold 0 = .ok (.aload_n 0, 1) := by decide +kernel
theorem dX10_readCold_1 : decode cX10_readCold 1 = .ok (.getfield 15, 3) := by decide +kernel
theorem dX10_readCold_4 : decode cX10_readCold 4 = .ok (.iconst 0, 1) := by decide +kernel
theorem dX10_readCold_5 : decode cX10_readCold 5 = .ok (.sipush 239, 3) := by decide +kernel
theorem dX10_readCold_8 : decode cX10_readCold 8 = .ok (.invokevirtual 89, 3) := by decide +kernel
theorem dX10_readCold_11 : decode cX10_readCold 11 = .ok (.istore_n 2, 1) := by decide +kernel
theorem dX10_readCold_12 : decode cX10_readCold 12 = .ok (.aload_n 1, 1) := by decide +kernel
theorem dX10_readCold_13 : decode cX10_readCold 13 = .ok (.getfield 141, 3) := by decide +kernel
theorem dX10_readCold_16 : decode cX10_readCold 16 = .ok (.aload_n 1, 1) := by decide +kernel
theorem dX10_readCold_17 : decode cX10_readCold 17 = .ok (.getfield 86, 3) := by decide +kernel
theorem dX10_readCold_20 : decode cX10_readCold 20 = .ok (.iload_n 2, 1) := by decide +kernel
theorem dX10_readCold_21 : decode cX10_readCold 21 = .ok (.iastore, 1) := by decide +kernel
theorem dX10_readCold_22 : decode cX10_readCold 22 = .ok (.aload_n 1, 1) := by decide +kernel
theorem dX10_readCold_23 : decode cX10_readCold 23 = .ok (.getfield 144, 3) := by decide +kernel
theorem dX10_readCold_26 : decode cX10_readCold 26 = .ok (.aload_n 1, 1) := by decide +kernel
theorem dX10_readCold_27 : decode cX10_readCold 27 = .ok (.getfield 86, 3) := by decide +kernel
theorem dX10_readCold_30 : decode cX10_readCold 30 = .ok (.aload_n 0, 1) := by decide +kernel
theorem dX10_readCold_31 : decode cX10_readCold 31 = .ok (.getfield 15, 3) := by decide +kernel
theorem dX10_readCold_34 : decode cX10_readCold 34 = .ok (.iload_n 2, 1) := by decide +kernel
theorem dX10_readCold_35 : decode cX10_readCold 35 = .ok (.sipush 239, 3) := by decide +kernel
theorem dX10_readCold_38 : decode cX10_readCold 38 = .ok (.invokevirtual 89, 3) := by decide +kernel
theorem dX10_readCold_41 : decode cX10_readCold 41 = .ok (.iastore, 1) := by decide +kernel
theorem dX10_readCold_42 : decode cX10_readCold 42 = .ok (.aload_n 1, 1) := by decide +kernel
theorem dX10_readCold_43 : decode cX10_readCold 43 = .ok (.getfield 147, 3) := by decide +kernel
theorem dX10_readCold_46 : decode cX10_readCold 46 = .ok (.aload_n 1, 1) := by decide +kernel
theorem dX10_readCold_47 : decode cX10_readCold 47 = .ok (.getfield 86, 3) := by decide +kernel
theorem dX10_readCold_50 : decode cX10_readCold 50 = .ok (.aload_n 0, 1) := by decide +kernel
theorem dX10_readCold_51 : decode cX10_readCold 51 = .ok (.getfield 15, 3) := by decide +kernel
theorem dX10_readCold_54 : decode cX10_readCold 54 = .ok (.iconst 1, 1) := by decide +kernel
theorem dX10_readCold_55 : decode cX10_readCold 55 = .ok (.iconst 4, 1) := by decide +kernel
theorem dX10_readCold_56 : decode cX10_readCold 56 = .ok (.invokevirtual 89, 3) := by decide +kernel
theorem dX10_readCold_59 : decode cX10_readCold 59 = .ok (.iastore, 1) := by decide +kernel
theorem dX10_readCold_60 : decode cX10_readCold 60 = .ok (.aload_n 1, 1) := by decide +kernel
theorem dX10_readCold_61 : decode cX10_readCold 61 = .ok (.dup, 1) := by decide +kernel
theorem dX10_readCold_62 : decode cX10_readCold 62 = .ok (.getfield 86, 3) := by decide +kernel
theorem dX10_readCold_65 : decode cX10_readCold 65 = .ok (.iconst 1, 1) := by decide +kernel
theorem dX10_readCold_66 : decode cX10_readCold 66 = .ok (.iadd, 1) := by decide +kernel
theorem dX10_readCold_67 : decode cX10_readCold 67 = .ok (.putfield 86, 3) := by decide +kernel
theorem dX10_readCold_70 : decode cX10_readCold 70 = .ok (.return_, 1) := by decide +kernel
noncomputable def f_X10_readCold (G : GG) (v0 : Nat) (v1 : Nat) (h : AH) : Option (AH) :=
ck (m_t h v0 = .inl 10) <|
ob (m_r h v0 0) fun b2 =>
ck (m_t h b2 = .inl 8) <|
cb (lri 0 b2 (s_X8_takeNumber G (0 : Int32) (239 : Int32)) h) fun r6 h4 =>
ck (m_t h4 v1 = .inl 9) <|
ob (m_r h4 v1 11) fun b8 =>
ck (ixb h4 b8 .int (m_i h4 v1 10) = true) <|
nn (m_si h4 b8 (m_i h4 v1 10).toNatClampNeg r6) fun h11 =>
ob (m_r h11 v1 12) fun b12 =>
ck (m_t h11 v0 = .inl 10) <|
ob (m_r h11 v0 0) fun b14 =>
ck (m_t h11 b14 = .inl 8) <|
cb (lri 0 b14 (s_X8_takeNumber G r6 (239 : Int32)) h11) fun r18 h16 =>
ck (ixb h16 b12 .int (m_i h11 v1 10) = true) <|
nn (m_si h16 b12 (m_i h11 v1 10).toNatClampNeg r18) fun h21 =>
ck (m_t h21 v1 = .inl 9) <|
ob (m_r h21 v1 13) fun b23 =>
ck (m_t h21 v0 = .inl 10) <|
ob (m_r h21 v0 0) fun b25 =>
ck (m_t h21 b25 = .inl 8) <|
cb (lri 0 b25 (s_X8_takeNumber G (1 : Int32) (4 : Int32)) h21) fun r29 h27 =>
ck (ixb h27 b23 .int (m_i h21 v1 10) = true) <|
nn (m_si h27 b23 (m_i h21 v1 10).toNatClampNeg r29) fun h32 =>
ck (m_t h32 v1 = .inl 9) <|
nn (m_si h32 v1 10 ((m_i h32 v1 10) + (1 : Int32))) fun h34 =>
some h34
set_option maxHeartbeats 4000000 in
set_option maxRecDepth 100000 in
theorem ct_X10_readCold {G : GG} {l : Launch} {v0 : Nat} {v1 : Nat} {h : AH} {y : AH} (hf : f_X10_readCold G v0 v1 h = some y) : Ct G l yX10_readCold cX10_readCold 3 none 2 44 0 0 [.ref v0, .ref v1] h (none, y) := by
  refine ct_of (by decide) (Nat.le_of_ble_eq_true rfl) ?_
  intro p e s m args below meth c C hm hr hin
  have C : Cx G cX10_readCold RX10 p s m args meth c := C
  refine e_lv (lv2 := [(0, .ref v0), (1, .ref v1)]) [0, 1] rfl ?_
  unfold f_X10_readCold at hf
  refine e_aload_n (pc := 0) C dX10_readCold_0 0 rfl rfl ?_
  obtain ⟨t1, hf⟩ := ck_e hf
  refine e_getr (pc := 1) 10 0 C dX10_readCold_1 (by decide) (by decide) g227 rfl t1 ?_
  obtain ⟨b2, eb2, hf⟩ := ob_e hf
  refine e_rf eb2 ?_
  refine e_iconst (v := (0 : Int32)) (pc := 4) C dX10_readCold_4 (by decide) ?_
  refine e_sipush (v := (239 : Int32)) (pc := 5) C dX10_readCold_5 (by decide) ?_
  obtain ⟨t3, hf⟩ := ck_e hf
  obtain ⟨r6, h4, y5, hf⟩ := cb_e hf
  refine e_callVi (pc := 8) (st := []) 8 C (lr_cti (o := 0) (fun hI => st_X8_takeNumber hI) y5) dX10_readCold_8 (by decide) t3 g735 g736 g737 g147 g738 hd_X8_takeNumber rfl ⟨Nat.le_of_ble_eq_true rfl, Nat.le_of_ble_eq_true rfl⟩ ⟨Nat.le_of_ble_eq_true rfl, Nat.le_of_ble_eq_true rfl⟩ rfl (Nat.le_of_ble_eq_true rfl) ?_
  refine e_istore_n (pc := 11) (lv2 := [(2, .int r6), (0, .ref v0), (1, .ref v1)]) C hm dX10_readCold_11 rfl (by decide) rfl ?_
  refine e_aload_n (pc := 12) C dX10_readCold_12 2 rfl rfl ?_
  obtain ⟨t7, hf⟩ := ck_e hf
  refine e_getrN (pc := 13) 9 11 C dX10_readCold_13 (by decide) (by decide) g355 rfl t7 ?_
  obtain ⟨b8, eb8, hf⟩ := ob_e hf
  refine e_rf eb8 ?_
  refine e_aload_n (pc := 16) C dX10_readCold_16 2 rfl rfl ?_
  refine e_getiN (pc := 17) 9 10 C dX10_readCold_17 (by decide) (by decide) g352 rfl t7 ?_
  refine e_iload_n (pc := 20) C dX10_readCold_20 0 rfl rfl ?_
  obtain ⟨q9, hf⟩ := ck_e hf
  obtain ⟨n10, tn10, in10⟩ := ix_e q9
  refine e_iast (pc := 21) C dX10_readCold_21 tn10 in10 ?_
  obtain ⟨h11, eh11, hf⟩ := nn_e hf
  refine e_hp eh11 ?_
  have uh11 : m_t h11 = m_t h4 := by rw [eh11]; exact rfl
  refine e_aload_n (pc := 22) C dX10_readCold_22 2 rfl rfl ?_
  refine e_getrN (pc := 23) 9 12 C dX10_readCold_23 (by decide) (by decide) g357 rfl (e_mt uh11 t7) ?_
  obtain ⟨b12, eb12, hf⟩ := ob_e hf
  refine e_rf eb12 ?_
  refine e_aload_n (pc := 26) C dX10_readCold_26 2 rfl rfl ?_
  refine e_getiN (pc := 27) 9 10 C dX10_readCold_27 (by decide) (by decide) g352 rfl (e_mt uh11 t7) ?_
  refine e_aload_n (pc := 30) C dX10_readCold_30 1 rfl rfl ?_
  obtain ⟨t13, hf⟩ := ck_e hf
  refine e_getr (pc := 31) 10 0 C dX10_readCold_31 (by decide) (by decide) g227 rfl t13 ?_
  obtain ⟨b14, eb14, hf⟩ := ob_e hf
  refine e_rf eb14 ?_
  refine e_iload_n (pc := 34) C dX10_readCold_34 0 rfl rfl ?_
  refine e_sipush (v := (239 : Int32)) (pc := 35) C dX10_readCold_35 (by decide) ?_
  obtain ⟨t15, hf⟩ := ck_e hf
  obtain ⟨r18, h16, y17, hf⟩ := cb_e hf
  refine e_callVi (pc := 38) (st := [.int (m_i h11 v1 10), .ref b12]) 8 C (lr_cti (o := 0) (fun hI => st_X8_takeNumber hI) y17) dX10_readCold_38 (by decide) t15 g735 g736 g737 g147 g738 hd_X8_takeNumber rfl ⟨Nat.le_of_ble_eq_true rfl, Nat.le_of_ble_eq_true rfl⟩ ⟨Nat.le_of_ble_eq_true rfl, Nat.le_of_ble_eq_true rfl⟩ rfl (Nat.le_of_ble_eq_true rfl) ?_
  obtain ⟨q19, hf⟩ := ck_e hf
  obtain ⟨n20, tn20, in20⟩ := ix_e q19
  refine e_iast (pc := 41) C dX10_readCold_41 tn20 in20 ?_
  obtain ⟨h21, eh21, hf⟩ := nn_e hf
  refine e_hp eh21 ?_
  have uh21 : m_t h21 = m_t h16 := by rw [eh21]; exact rfl
  refine e_aload_n (pc := 42) C dX10_readCold_42 2 rfl rfl ?_
  obtain ⟨t22, hf⟩ := ck_e hf
  refine e_getrN (pc := 43) 9 13 C dX10_readCold_43 (by decide) (by decide) g359 rfl t22 ?_
  obtain ⟨b23, eb23, hf⟩ := ob_e hf
  refine e_rf eb23 ?_
  refine e_aload_n (pc := 46) C dX10_readCold_46 2 rfl rfl ?_
  refine e_getiN (pc := 47) 9 10 C dX10_readCold_47 (by decide) (by decide) g352 rfl t22 ?_
  refine e_aload_n (pc := 50) C dX10_readCold_50 1 rfl rfl ?_
  obtain ⟨t24, hf⟩ := ck_e hf
  refine e_getr (pc := 51) 10 0 C dX10_readCold_51 (by decide) (by decide) g227 rfl t24 ?_
  obtain ⟨b25, eb25, hf⟩ := ob_e hf
  refine e_rf eb25 ?_
  refine e_iconst (v := (1 : Int32)) (pc := 54) C dX10_readCold_54 (by decide) ?_
  refine e_iconst (v := (4 : Int32)) (pc := 55) C dX10_readCold_55 (by decide) ?_
  obtain ⟨t26, hf⟩ := ck_e hf
  obtain ⟨r29, h27, y28, hf⟩ := cb_e hf
  refine e_callVi (pc := 56) (st := [.int (m_i h21 v1 10), .ref b23]) 8 C (lr_cti (o := 0) (fun hI => st_X8_takeNumber hI) y28) dX10_readCold_56 (by decide) t26 g735 g736 g737 g147 g738 hd_X8_takeNumber rfl ⟨Nat.le_of_ble_eq_true rfl, Nat.le_of_ble_eq_true rfl⟩ ⟨Nat.le_of_ble_eq_true rfl, Nat.le_of_ble_eq_true rfl⟩ rfl (Nat.le_of_ble_eq_true rfl) ?_
  obtain ⟨q30, hf⟩ := ck_e hf
  obtain ⟨n31, tn31, in31⟩ := ix_e q30
  refine e_iast (pc := 59) C dX10_readCold_59 tn31 in31 ?_
  obtain ⟨h32, eh32, hf⟩ := nn_e hf
  refine e_hp eh32 ?_
  have uh32 : m_t h32 = m_t h27 := by rw [eh32]; exact rfl
  refine e_aload_n (pc := 60) C dX10_readCold_60 2 rfl rfl ?_
  refine e_dup (pc := 61) C dX10_readCold_61 rfl ?_
  obtain ⟨t33, hf⟩ := ck_e hf
  refine e_getiN (pc := 62) 9 10 C dX10_readCold_62 (by decide) (by decide) g352 rfl t33 ?_
  refine e_iconst (v := (1 : Int32)) (pc := 65) C dX10_readCold_65 (by decide) ?_
  refine e_iadd (pc := 66) C dX10_readCold_66 ?_
  refine e_putiN (pc := 67) 9 10 C dX10_readCold_67 (by decide) (by decide) g352 rfl rfl rfl rfl t33 ?_
  obtain ⟨h34, eh34, hf⟩ := nn_e hf
  refine e_hp eh34 ?_
  have uh34 : m_t h34 = m_t h27 := by rw [eh34]; exact uh32
  obtain rfl := so_e hf
  exact e_vret (pc := 70) C hr dX10_readCold_70 (Nat.le_of_ble_eq_true rfl) (Nat.le_of_ble_eq_true rfl)
theorem dX10_readClause_0 : decode cX10_readClause 0 = .ok (.aload_n 0, 1) := by decide +kernel
theorem dX10_readClause_1 : decode cX10_readClause 1 = .ok (.getfield 15, 3) := by decide +kernel
theorem dX10_readClause_4 : decode cX10_readClause 4 = .ok (.getfield 38, 3) := by decide +kernel
theorem dX10_readClause_7 : decode cX10_readClause 7 = .ok (.istore_n 3, 1) := by decide +kernel
theorem dX10_readClause_8 : decode cX10_readClause 8 = .ok (.iload_n 3, 1) := by decide +kernel
theorem dX10_readClause_9 : decode cX10_readClause 9 = .ok (.sipush 300, 3) := by decide +kernel
theorem dX10_readClause_12 : decode cX10_readClause 12 = .ok (.if_icmp .ge 14, 3) := by decide +kernel
theorem dX10_readClause_15 : decode cX10_readClause 15 = .ok (.aload_n 0, 1) := by decide +kernel
theorem dX10_readClause_16 : decode cX10_readClause 16 = .ok (.getfield 15, 3) := by decide +kernel
theorem dX10_readClause_19 : decode cX10_readClause 19 = .ok (.iconst 0, 1) := by decide +kernel
theorem dX10_readClause_20 : decode cX10_readClause 20 = .ok (.invokevirtual 48, 3) := by decide +kernel
theorem dX10_readClause_23 : decode cX10_readClause 23 = .ok (.goto 27, 3) := by decide +kernel
theorem dX10_readClause_26 : decode cX10_readClause 26 = .ok (.iload_n 2, 1) := by decide +kernel
theorem dX10_readClause_27 : decode cX10_readClause 27 = .ok (.bipush 40, 2) := by decide +kernel
theorem dX10_readClause_29 : decode cX10_readClause 29 = .ok (.if_icmp .eq 13, 3) := by decide +kernel
theorem dX10_readClause_32 : decode cX10_readClause 32 = .ok (.aload_n 0, 1) := by decide +kernel
theorem dX10_readClause_33 : decode cX10_readClause 33 = .ok (.aload_n 1, 1) := by decide +kernel
theorem dX10_readClause_34 : decode cX10_readClause 34 = .ok (.iload_n 3, 1) := by decide +kernel
theorem dX10_readClause_35 : decode cX10_readClause 35 = .ok (.iload_n 2, 1) := by decide +kernel
theorem dX10_readClause_36 : decode cX10_readClause 36 = .ok (.invokevirtual 51, 3) := by decide +kernel
theorem dX10_readClause_39 : decode cX10_readClause 39 = .ok (.ifCond .eq 11, 3) := by decide +kernel
theorem dX10_readClause_42 : decode cX10_readClause 42 = .ok (.aload_n 0, 1) := by decide +kernel
theorem dX10_readClause_43 : decode cX10_readClause 43 = .ok (.getfield 15, 3) := by decide +kernel
theorem dX10_readClause_46 : decode cX10_readClause 46 = .ok (.iconst 4, 1) := by decide +kernel
theorem dX10_readClause_47 : decode cX10_readClause 47 = .ok (.invokevirtual 48, 3) := by decide +kernel
theorem dX10_readClause_50 : decode cX10_readClause 50 = .ok (.aload_n 0, 1) := by decide +kernel
theorem dX10_readClause_51 : decode cX10_readClause 51 = .ok (.getfield 15, 3) := by decide +kernel
theorem dX10_readClause_54 : decode cX10_readClause 54 = .ok (.getfield 34, 3) := by decide +kernel
theorem dX10_readClause_57 : decode cX10_readClause 57 = .ok (.ifCond .eq 4, 3) := by decide +kernel
theorem dX10_readClause_60 : decode cX10_readClause 60 = .ok (.return_, 1) := by decide +kernel
theorem dX10_readClause_61 : decode cX10_readClause 61 = .ok (.aload_n 0, 1) := by decide +kernel
theorem dX10_readClause_62 : decode cX10_readClause 62 = .ok (.getfield 15, 3) := by decide +kernel
theorem dX10_readClause_65 : decode cX10_readClause 65 = .ok (.invokevirtual 55, 3) := by decide +kernel
theorem dX10_readClause_68 : decode cX10_readClause 68 = .ok (.iload_n 3, 1) := by decide +kernel
theorem dX10_readClause_69 : decode cX10_readClause 69 = .ok (.tableswitch 87 300 305 #[39, 47, 55, 63, 71, 79], 39) := by decide +kernel
theorem dX10_readClause_108 : decode cX10_readClause 108 = .ok (.aload_n 0, 1) := by decide +kernel
theorem dX10_readClause_109 : decode cX10_readClause 109 = .ok (.aload_n 1, 1) := by decide +kernel
theorem dX10_readClause_110 : decode cX10_readClause 110 = .ok (.invokevirtual 58, 3) := by decide +kernel
theorem dX10_readClause_113 : decode cX10_readClause 113 = .ok (.goto 48, 3) := by decide +kernel
theorem dX10_readClause_116 : decode cX10_readClause 116 = .ok (.aload_n 0, 1) := by decide +kernel
theorem dX10_readClause_117 : decode cX10_readClause 117 = .ok (.aload_n 1, 1) := by decide +kernel
theorem dX10_readClause_118 : decode cX10_readClause 118 = .ok (.invokevirtual 62, 3) := by decide +kernel
theorem dX10_readClause_121 : decode cX10_readClause 121 = .ok (.goto 40, 3) := by decide +kernel
theorem dX10_readClause_124 : decode cX10_readClause 124 = .ok (.aload_n 0, 1) := by decide +kernel
theorem dX10_readClause_125 : decode cX10_readClause 125 = .ok (.aload_n 1, 1) := by decide +kernel
theorem dX10_readClause_126 : decode cX10_readClause 126 = .ok (.invokevirtual 65, 3) := by decide +kernel
theorem dX10_readClause_129 : decode cX10_readClause 129 = .ok (.goto 32, 3) := by decide +kernel
theorem dX10_readClause_132 : decode cX10_readClause 132 = .ok (.aload_n 0, 1) := by decide +kernel
theorem dX10_readClause_133 : decode cX10_readClause 133 = .ok (.aload_n 1, 1) := by decide +kernel
theorem dX10_readClause_134 : decode cX10_readClause 134 = .ok (.invokevirtual 68, 3) := by decide +kernel
theorem dX10_readClause_137 : decode cX10_readClause 137 = .ok (.goto 24, 3) := by decide +kernel
theorem dX10_readClause_140 : decode cX10_readClause 140 = .ok (.aload_n 0, 1) := by decide +kernel
theorem dX10_readClause_141 : decode cX10_readClause 141 = .ok (.aload_n 1, 1) := by decide +kernel
theorem dX10_readClause_142 : decode cX10_readClause 142 = .ok (.invokevirtual 71, 3) := by decide +kernel
theorem dX10_readClause_145 : decode cX10_readClause 145 = .ok (.goto 16, 3) := by decide +kernel
theorem dX10_readClause_148 : decode cX10_readClause 148 = .ok (.aload_n 0, 1) := by decide +kernel
theorem dX10_readClause_149 : decode cX10_readClause 149 = .ok (.aload_n 1, 1) := by decide +kernel
theorem dX10_readClause_150 : decode cX10_readClause 150 = .ok (.invokevirtual 74, 3) := by decide +kernel
theorem dX10_readClause_153 : decode cX10_readClause 153 = .ok (.goto 8, 3) := by decide +kernel
theorem dX10_readClause_156 : decode cX10_readClause 156 = .ok (.aload_n 0, 1) := by decide +kernel
theorem dX10_readClause_157 : decode cX10_readClause 157 = .ok (.aload_n 1, 1) := by decide +kernel
theorem dX10_readClause_158 : decode cX10_readClause 158 = .ok (.invokevirtual 77, 3) := by decide +kernel
theorem dX10_readClause_161 : decode cX10_readClause 161 = .ok (.return_, 1) := by decide +kernel
noncomputable def f_X10_readClause (G : GG) (v0 : Nat) (v1 : Nat) (v2 : Int32) (h : AH) : Option (AH) :=
ck (m_t h v0 = .inl 10) <|
ob (m_r h v0 0) fun b2 =>
ck (m_t h b2 = .inl 8) <|
nn (m_i h b2 7) fun x4 =>
nn (fun (h_50 : AH) => (ck (m_t h_50 v0 = .inl 10) <|
ob (m_r h_50 v0 0) fun b6 =>
ck (m_t h_50 b6 = .inl 8) <|
if (m_i h_50 b6 9) = 0 then (ob (m_r h_50 v0 0) fun b9 =>
ck (m_t h_50 b9 = .inl 8) <|
ob (lrv 0 b9 (s_X8_advance G) h_50) fun h11 =>
if x4 = (300 : Int32) then (ck (m_t h11 v0 = .inl 10) <|
ob (f_X10_readStart G v0 v1 h11) fun h15 =>
some h15) else
if x4 = (301 : Int32) then (ck (m_t h11 v0 = .inl 10) <|
ob (f_X10_readHole G v0 v1 h11) fun h19 =>
some h19) else
if x4 = (302 : Int32) then (ck (m_t h11 v0 = .inl 10) <|
ob (f_X10_readPerson G v0 v1 h11) fun h23 =>
some h23) else
if x4 = (303 : Int32) then (ck (m_t h11 v0 = .inl 10) <|
ob (f_X10_readFront G v0 v1 h11) fun h27 =>
some h27) else
if x4 = (304 : Int32) then (ck (m_t h11 v0 = .inl 10) <|
ob (f_X10_readSays G v0 v1 h11) fun h31 =>
some h31) else
if x4 = (305 : Int32) then (ck (m_t h11 v0 = .inl 10) <|
ob (f_X10_readTunnel G v0 v1 h11) fun h35 =>
some h35) else
ck (m_t h11 v0 = .inl 10) <|
ob (f_X10_readCold G v0 v1 h11) fun h38 =>
some h38) else
some h_50)) fun j_50 =>
if (300 : Int32) ≤ x4 then (nn (fun (h_42 : AH) => (ck (m_t h_42 v0 = .inl 10) <|
ob (m_r h_42 v0 0) fun b42 =>
ck (m_t h_42 b42 = .inl 8) <|
ob (lrv 0 b42 (s_X8_fail G (4 : Int32)) h_42) fun h44 =>
j_50 h44)) fun j_42 =>
if v2 = (40 : Int32) then (j_42 h) else
cb (f_X10_isOutOfPlace G v0 v1 x4 v2 h) fun r49 h47 =>
if r49 = 0 then (j_50 h47) else
j_42 h47) else
ob (m_r h v0 0) fun b51 =>
ck (m_t h b51 = .inl 8) <|
ob (lrv 0 b51 (s_X8_fail G (0 : Int32)) h) fun h53 =>
j_50 h53
set_option maxHeartbeats 4000000 in
set_option maxRecDepth 100000 in
theorem ct_X10_readClause {G : GG} {l : Launch} {v0 : Nat} {v1 : Nat} {v2 : Int32} {h : AH} {y : AH} (hf : f_X10_readClause G v0 v1 v2 h = some y) : Ct G l yX10_readClause cX10_readClause 4 none 3 67 0 0 [.ref v0, .ref v1, .int v2] h (none, y) := by
  refine ct_of (by decide) (Nat.le_of_ble_eq_true rfl) ?_
  intro p e s m args below meth c C hm hr hin
  have C : Cx G cX10_readClause RX10 p s m args meth c := C
  refine e_lv (lv2 := [(0, .ref v0), (1, .ref v1), (2, .int v2)]) [0, 1, 2] rfl ?_
  unfold f_X10_readClause at hf
  refine e_aload_n (pc := 0) C dX10_readClause_0 0 rfl rfl ?_
  obtain ⟨t1, hf⟩ := ck_e hf
  refine e_getr (pc := 1) 10 0 C dX10_readClause_1 (by decide) (by decide) g227 rfl t1 ?_
  obtain ⟨b2, eb2, hf⟩ := ob_e hf
  refine e_rf eb2 ?_
  obtain ⟨t3, hf⟩ := ck_e hf
  refine e_getiN (pc := 4) 8 7 C dX10_readClause_4 (by decide) (by decide) g190 rfl t3 ?_
  obtain ⟨x4, ex4, hf⟩ := nn_e hf
  refine e_topi ex4 ?_
  refine e_istore_n (pc := 7) (lv2 := [(3, .int x4), (0, .ref v0), (1, .ref v1), (2, .int v2)]) C hm dX10_readClause_7 rfl (by decide) rfl ?_
  refine e_iload_n (pc := 8) C dX10_readClause_8 0 rfl rfl ?_
  refine e_sipush (v := (300 : Int32)) (pc := 9) C dX10_readClause_9 (by decide) ?_
  obtain ⟨j_50, ej_50, hf⟩ := nn_e hf
  have W_50 : ∀ (h_50 : AH), j_50 h_50 = some y → EE G p l e ({ frames := 3, cells := 0, slots := 0, locals := 67 } : Room) s m args below meth c (none, y) 0 0 50 [(0, .ref v0), (1, .ref v1), (3, .int x4)] [] h_50 0 0 := by
    intro h_50 hf
    rw [ej_50] at hf
    refine e_aload_n (pc := 50) C dX10_readClause_50 0 rfl rfl ?_
    obtain ⟨t5, hf⟩ := ck_e hf
    refine e_getr (pc := 51) 10 0 C dX10_readClause_51 (by decide) (by decide) g227 rfl t5 ?_
    obtain ⟨b6, eb6, hf⟩ := ob_e hf
    refine e_rf eb6 ?_
    obtain ⟨t7, hf⟩ := ck_e hf
    refine e_getiN (pc := 54) 8 9 C dX10_readClause_54 (by decide) (by decide) g196 rfl t7 ?_
    rcases it_e hf with ⟨c8, hf⟩ | ⟨c8, hf⟩
    · refine e_if_eq (pc := 57) (tgt := 61) C dX10_readClause_57 (by decide) (fun _ => ?_) (fun q => absurd c8 q)
      refine e_aload_n (pc := 61) C dX10_readClause_61 0 rfl rfl ?_
      refine e_getr (pc := 62) 10 0 C dX10_readClause_62 (by decide) (by decide) g227 rfl t5 ?_
      obtain ⟨b9, eb9, hf⟩ := ob_e hf
      refine e_rf eb9 ?_
      obtain ⟨t10, hf⟩ := ck_e hf
      obtain ⟨h11, y12, hf⟩ := ob_e hf
      refine e_callVv (pc := 65) (st := []) 8 C (lr_ctv (o := 0) (fun hI => st_X8_advance hI) y12) dX10_readClause_65 (by decide) t10 g730 g715 g716 g147 g717 hd_X8_advance rfl ⟨Nat.le_of_ble_eq_true rfl, Nat.le_of_ble_eq_true rfl⟩ ⟨Nat.le_of_ble_eq_true rfl, Nat.le_of_ble_eq_true rfl⟩ rfl (Nat.le_of_ble_eq_true rfl) ?_
      refine e_iload_n (pc := 68) C dX10_readClause_68 2 rfl rfl ?_
      rcases it_e hf with ⟨c13, hf⟩ | ⟨c13, hf⟩
      · refine e_tabK (pc := 69) (tgt := 108) (300 : Int32) c13 C dX10_readClause_69 (by decide) (by decide) rfl (by decide) ?_
        refine e_aload_n (pc := 108) C dX10_readClause_108 0 rfl rfl ?_
        refine e_aload_n (pc := 109) C dX10_readClause_109 1 rfl rfl ?_
        obtain ⟨t14, hf⟩ := ck_e hf
        obtain ⟨h15, y16, hf⟩ := ob_e hf
        refine e_callVv (pc := 110) (st := []) 10 C (ct_X10_readStart y16) dX10_readClause_110 (by decide) t14 g731 g733 g7 g148 g734 hd_X10_readStart rfl ⟨Nat.le_of_ble_eq_true rfl, Nat.le_of_ble_eq_true rfl⟩ ⟨Nat.le_of_ble_eq_true rfl, Nat.le_of_ble_eq_true rfl⟩ rfl (Nat.le_of_ble_eq_true rfl) ?_
        refine e_goto (pc := 113) (tgt := 161) C dX10_readClause_113 (by decide) ?_
        obtain rfl := so_e hf
        exact e_vret (pc := 161) C hr dX10_readClause_161 (Nat.le_of_ble_eq_true rfl) (Nat.le_of_ble_eq_true rfl)
      rcases it_e hf with ⟨c17, hf⟩ | ⟨c17, hf⟩
      · refine e_tabK (pc := 69) (tgt := 116) (301 : Int32) c17 C dX10_readClause_69 (by decide) (by decide) rfl (by decide) ?_
        refine e_aload_n (pc := 116) C dX10_readClause_116 0 rfl rfl ?_
        refine e_aload_n (pc := 117) C dX10_readClause_117 1 rfl rfl ?_
        obtain ⟨t18, hf⟩ := ck_e hf
        obtain ⟨h19, y20, hf⟩ := ob_e hf
        refine e_callVv (pc := 118) (st := []) 10 C (ct_X10_readHole y20) dX10_readClause_118 (by decide) t18 g740 g742 g8 g148 g743 hd_X10_readHole rfl ⟨Nat.le_of_ble_eq_true rfl, Nat.le_of_ble_eq_true rfl⟩ ⟨Nat.le_of_ble_eq_true rfl, Nat.le_of_ble_eq_true rfl⟩ rfl (Nat.le_of_ble_eq_true rfl) ?_
        refine e_goto (pc := 121) (tgt := 161) C dX10_readClause_121 (by decide) ?_
        obtain rfl := so_e hf
        exact e_vret (pc := 161) C hr dX10_readClause_161 (Nat.le_of_ble_eq_true rfl) (Nat.le_of_ble_eq_true rfl)
      rcases it_e hf with ⟨c21, hf⟩ | ⟨c21, hf⟩
      · refine e_tabK (pc := 69) (tgt := 124) (302 : Int32) c21 C dX10_readClause_69 (by decide) (by decide) rfl (by decide) ?_
        refine e_aload_n (pc := 124) C dX10_readClause_124 0 rfl rfl ?_
        refine e_aload_n (pc := 125) C dX10_readClause_125 1 rfl rfl ?_
        obtain ⟨t22, hf⟩ := ck_e hf
        obtain ⟨h23, y24, hf⟩ := ob_e hf
        refine e_callVv (pc := 126) (st := []) 10 C (ct_X10_readPerson y24) dX10_readClause_126 (by decide) t22 g744 g746 g9 g148 g747 hd_X10_readPerson rfl ⟨Nat.le_of_ble_eq_true rfl, Nat.le_of_ble_eq_true rfl⟩ ⟨Nat.le_of_ble_eq_true rfl, Nat.le_of_ble_eq_true rfl⟩ rfl (Nat.le_of_ble_eq_true rfl) ?_
        refine e_goto (pc := 129) (tgt := 161) C dX10_readClause_129 (by decide) ?_
        obtain rfl := so_e hf
        exact e_vret (pc := 161) C hr dX10_readClause_161 (Nat.le_of_ble_eq_true rfl) (Nat.le_of_ble_eq_true rfl)
      rcases it_e hf with ⟨c25, hf⟩ | ⟨c25, hf⟩
      · refine e_tabK (pc := 69) (tgt := 132) (303 : Int32) c25 C dX10_readClause_69 (by decide) (by decide) rfl (by decide) ?_
        refine e_aload_n (pc := 132) C dX10_readClause_132 0 rfl rfl ?_
        refine e_aload_n (pc := 133) C dX10_readClause_133 1 rfl rfl ?_
        obtain ⟨t26, hf⟩ := ck_e hf
        obtain ⟨h27, y28, hf⟩ := ob_e hf
        refine e_callVv (pc := 134) (st := []) 10 C (ct_X10_readFront y28) dX10_readClause_134 (by decide) t26 g748 g750 g10 g148 g751 hd_X10_readFront rfl ⟨Nat.le_of_ble_eq_true rfl, Nat.le_of_ble_eq_true rfl⟩ ⟨Nat.le_of_ble_eq_true rfl, Nat.le_of_ble_eq_true rfl⟩ rfl (Nat.le_of_ble_eq_true rfl) ?_
        refine e_goto (pc := 137) (tgt := 161) C dX10_readClause_137 (by decide) ?_
        obtain rfl := so_e hf
        exact e_vret (pc := 161) C hr dX10_readClause_161 (Nat.le_of_ble_eq_true rfl) (Nat.le_of_ble_eq_true rfl)
      rcases it_e hf with ⟨c29, hf⟩ | ⟨c29, hf⟩
      · refine e_tabK (pc := 69) (tgt := 140) (304 : Int32) c29 C dX10_readClause_69 (by decide) (by decide) rfl (by decide) ?_
        refine e_aload_n (pc := 140) C dX10_readClause_140 0 rfl rfl ?_
        refine e_aload_n (pc := 141) C dX10_readClause_141 1 rfl rfl ?_
        obtain ⟨t30, hf⟩ := ck_e hf
        obtain ⟨h31, y32, hf⟩ := ob_e hf
        refine e_callVv (pc := 142) (st := []) 10 C (ct_X10_readSays y32) dX10_readClause_142 (by decide) t30 g756 g758 g11 g148 g759 hd_X10_readSays rfl ⟨Nat.le_of_ble_eq_true rfl, Nat.le_of_ble_eq_true rfl⟩ ⟨Nat.le_of_ble_eq_true rfl, Nat.le_of_ble_eq_true rfl⟩ rfl (Nat.le_of_ble_eq_true rfl) ?_
        refine e_goto (pc := 145) (tgt := 161) C dX10_readClause_145 (by decide) ?_
        obtain rfl := so_e hf
        exact e_vret (pc := 161) C hr dX10_readClause_161 (Nat.le_of_ble_eq_true rfl) (Nat.le_of_ble_eq_true rfl)
      rcases it_e hf with ⟨c33, hf⟩ | ⟨c33, hf⟩
      · refine e_tabK (pc := 69) (tgt := 148) (305 : Int32) c33 C dX10_readClause_69 (by decide) (by decide) rfl (by decide) ?_
        refine e_aload_n (pc := 148) C dX10_readClause_148 0 rfl rfl ?_
        refine e_aload_n (pc := 149) C dX10_readClause_149 1 rfl rfl ?_
        obtain ⟨t34, hf⟩ := ck_e hf
        obtain ⟨h35, y36, hf⟩ := ob_e hf
        refine e_callVv (pc := 150) (st := []) 10 C (ct_X10_readTunnel y36) dX10_readClause_150 (by decide) t34 g760 g762 g12 g148 g763 hd_X10_readTunnel rfl ⟨Nat.le_of_ble_eq_true rfl, Nat.le_of_ble_eq_true rfl⟩ ⟨Nat.le_of_ble_eq_true rfl, Nat.le_of_ble_eq_true rfl⟩ rfl (Nat.le_of_ble_eq_true rfl) ?_
        refine e_goto (pc := 153) (tgt := 161) C dX10_readClause_153 (by decide) ?_
        obtain rfl := so_e hf
        exact e_vret (pc := 161) C hr dX10_readClause_161 (Nat.le_of_ble_eq_true rfl) (Nat.le_of_ble_eq_true rfl)
      refine e_tabOut (pc := 69) (tgt := 156) C dX10_readClause_69 (by have g0 := i_ne 300 (by decide) c13; have g1 := i_ne 301 (by decide) c17; have g2 := i_ne 302 (by decide) c21; have g3 := i_ne 303 (by decide) c25; have g4 := i_ne 304 (by decide) c29; have g5 := i_ne 305 (by decide) c33; omega) (by decide) ?_
      refine e_aload_n (pc := 156) C dX10_readClause_156 0 rfl rfl ?_
      refine e_aload_n (pc := 157) C dX10_readClause_157 1 rfl rfl ?_
      obtain ⟨t37, hf⟩ := ck_e hf
      obtain ⟨h38, y39, hf⟩ := ob_e hf
      refine e_callVv (pc := 158) (st := []) 10 C (ct_X10_readCold y39) dX10_readClause_158 (by decide) t37 g764 g766 g13 g148 g767 hd_X10_readCold rfl ⟨Nat.le_of_ble_eq_true rfl, Nat.le_of_ble_eq_true rfl⟩ ⟨Nat.le_of_ble_eq_true rfl, Nat.le_of_ble_eq_true rfl⟩ rfl (Nat.le_of_ble_eq_true rfl) ?_
      obtain rfl := so_e hf
      exact e_vret (pc := 161) C hr dX10_readClause_161 (Nat.le_of_ble_eq_true rfl) (Nat.le_of_ble_eq_true rfl)
    · refine e_if_eq (pc := 57) (tgt := 61) C dX10_readClause_57 (by decide) (fun q => absurd q c8) (fun _ => ?_)
      obtain rfl := so_e hf
      exact e_vret (pc := 60) C hr dX10_readClause_60 (Nat.le_of_ble_eq_true rfl) (Nat.le_of_ble_eq_true rfl)
  rcases it_e hf with ⟨c40, hf⟩ | ⟨c40, hf⟩
  · refine e_icmp_ge (pc := 12) (tgt := 26) C dX10_readClause_12 (by decide) (fun _ => ?_) (fun q => absurd c40 q)
    refine e_iload_n (pc := 26) C dX10_readClause_26 3 rfl rfl ?_
    refine e_bipush (v := (40 : Int32)) (pc := 27) C dX10_readClause_27 (by decide) ?_
    obtain ⟨j_42, ej_42, hf⟩ := nn_e hf
    have W_42 : ∀ (h_42 : AH), j_42 h_42 = some y → EE G p l e ({ frames := 3, cells := 0, slots := 0, locals := 67 } : Room) s m args below meth c (none, y) 0 0 42 [(0, .ref v0), (1, .ref v1), (3, .int x4)] [] h_42 0 0 := by
      intro h_42 hf
      rw [ej_42] at hf
      refine e_aload_n (pc := 42) C dX10_readClause_42 0 rfl rfl ?_
      obtain ⟨t41, hf⟩ := ck_e hf
      refine e_getr (pc := 43) 10 0 C dX10_readClause_43 (by decide) (by decide) g227 rfl t41 ?_
      obtain ⟨b42, eb42, hf⟩ := ob_e hf
      refine e_rf eb42 ?_
      refine e_iconst (v := (4 : Int32)) (pc := 46) C dX10_readClause_46 (by decide) ?_
      obtain ⟨t43, hf⟩ := ck_e hf
      obtain ⟨h44, y45, hf⟩ := ob_e hf
      refine e_callVv (pc := 47) (st := []) 8 C (lr_ctv (o := 0) (fun hI => st_X8_fail hI) y45) dX10_readClause_47 (by decide) t43 g722 g723 g724 g147 g725 hd_X8_fail rfl ⟨Nat.le_of_ble_eq_true rfl, Nat.le_of_ble_eq_true rfl⟩ ⟨Nat.le_of_ble_eq_true rfl, Nat.le_of_ble_eq_true rfl⟩ rfl (Nat.le_of_ble_eq_true rfl) ?_
      exact W_50 h44 hf
    rcases it_e hf with ⟨c46, hf⟩ | ⟨c46, hf⟩
    · refine e_icmp_eq (pc := 29) (tgt := 42) C dX10_readClause_29 (by decide) (fun _ => ?_) (fun q => absurd c46 q)
      refine e_lv (lv2 := [(0, .ref v0), (1, .ref v1), (3, .int x4)]) [1, 2, 0] rfl ?_
      exact W_42 h hf
    · refine e_icmp_eq (pc := 29) (tgt := 42) C dX10_readClause_29 (by decide) (fun q => absurd q c46) (fun _ => ?_)
      refine e_aload_n (pc := 32) C dX10_readClause_32 1 rfl rfl ?_
      refine e_aload_n (pc := 33) C dX10_readClause_33 2 rfl rfl ?_
      refine e_iload_n (pc := 34) C dX10_readClause_34 0 rfl rfl ?_
      refine e_iload_n (pc := 35) C dX10_readClause_35 3 rfl rfl ?_
      obtain ⟨r49, h47, y48, hf⟩ := cb_e hf
      refine e_callVi (pc := 36) (st := []) 10 C (ct_X10_isOutOfPlace y48) dX10_readClause_36 (by decide) t1 g726 g728 g6 g148 g729 hd_X10_isOutOfPlace rfl ⟨Nat.le_of_ble_eq_true rfl, Nat.le_of_ble_eq_true rfl⟩ ⟨Nat.le_of_ble_eq_true rfl, Nat.le_of_ble_eq_true rfl⟩ rfl (Nat.le_of_ble_eq_true rfl) ?_
      rcases it_e hf with ⟨c50, hf⟩ | ⟨c50, hf⟩
      · refine e_if_eq (pc := 39) (tgt := 50) C dX10_readClause_39 (by decide) (fun _ => ?_) (fun q => absurd c50 q)
        refine e_lv (lv2 := [(0, .ref v0), (1, .ref v1), (3, .int x4)]) [1, 2, 0] rfl ?_
        exact W_50 h47 hf
      · refine e_if_eq (pc := 39) (tgt := 50) C dX10_readClause_39 (by decide) (fun q => absurd q c50) (fun _ => ?_)
        refine e_lv (lv2 := [(0, .ref v0), (1, .ref v1), (3, .int x4)]) [1, 2, 0] rfl ?_
        exact W_42 h47 hf
  · refine e_icmp_ge (pc := 12) (tgt := 26) C dX10_readClause_12 (by decide) (fun q => absurd q c40) (fun _ => ?_)
    refine e_aload_n (pc := 15) C dX10_readClause_15 1 rfl rfl ?_
    refine e_getr (pc := 16) 10 0 C dX10_readClause_16 (by decide) (by decide) g227 rfl t1 ?_
    obtain ⟨b51, eb51, hf⟩ := ob_e hf
    refine e_rf eb51 ?_
    refine e_iconst (v := (0 : Int32)) (pc := 19) C dX10_readClause_19 (by decide) ?_
    obtain ⟨t52, hf⟩ := ck_e hf
    obtain ⟨h53, y54, hf⟩ := ob_e hf
    refine e_callVv (pc := 20) (st := []) 8 C (lr_ctv (o := 0) (fun hI => st_X8_fail hI) y54) dX10_readClause_20 (by decide) t52 g722 g723 g724 g147 g725 hd_X8_fail rfl ⟨Nat.le_of_ble_eq_true rfl, Nat.le_of_ble_eq_true rfl⟩ ⟨Nat.le_of_ble_eq_true rfl, Nat.le_of_ble_eq_true rfl⟩ rfl (Nat.le_of_ble_eq_true rfl) ?_
    refine e_goto (pc := 23) (tgt := 50) C dX10_readClause_23 (by decide) ?_
    refine e_lv (lv2 := [(0, .ref v0), (1, .ref v1), (3, .int x4)]) [1, 2, 0] rfl ?_
    exact W_50 h53 hf
theorem dX10_readTrain_0 : decode cX10_readTrain 0 = .ok (.new 19, 3) := by decide +kernel
theorem dX10_readTrain_3 : decode cX10_readTrain 3 = .ok (.dup, 1) := by decide +kernel
theorem dX10_readTrain_4 : decode cX10_readTrain 4 = .ok (.invokespecial 21, 3) := by decide +kernel
theorem dX10_readTrain_7 : decode cX10_readTrain 7 = .ok (.astore_n 1, 1) := by decide +kernel
theorem dX10_readTrain_8 : decode cX10_readTrain 8 = .ok (.aload_n 0, 1) := by decide +kernel
theorem dX10_readTrain_9 : decode cX10_readTrain 9 = .ok (.iconst 0, 1) := by decide +kernel
theorem dX10_readTrain_10 : decode cX10_readTrain 10 = .ok (.putfield 9, 3) := by decide +kernel
theorem dX10_readTrain_13 : decode cX10_readTrain 13 = .ok (.aload_n 0, 1) := by decide +kernel
theorem dX10_readTrain_14 : decode cX10_readTrain 14 = .ok (.getfield 15, 3) := by decide +kernel
theorem dX10_readTrain_17 : decode cX10_readTrain 17 = .ok (.ldc 22, 2) := by decide +kernel
theorem dX10_readTrain_19 : decode cX10_readTrain 19 = .ok (.invokevirtual 24, 3) := by decide +kernel
theorem dX10_readTrain_22 : decode cX10_readTrain 22 = .ok (.aload_n 0, 1) := by decide +kernel
theorem dX10_readTrain_23 : decode cX10_readTrain 23 = .ok (.aload_n 1, 1) := by decide +kernel
theorem dX10_readTrain_24 : decode cX10_readTrain 24 = .ok (.iconst 0, 1) := by decide +kernel
theorem dX10_readTrain_25 : decode cX10_readTrain 25 = .ok (.invokevirtual 30, 3) := by decide +kernel
theorem dX10_readTrain_28 : decode cX10_readTrain 28 = .ok (.iconst 1, 1) := by decide +kernel
theorem dX10_readTrain_29 : decode cX10_readTrain 29 = .ok (.istore_n 2, 1) := by decide +kernel
theorem dX10_readTrain_30 : decode cX10_readTrain 30 = .ok (.iload_n 2, 1) := by decide +kernel
theorem dX10_readTrain_31 : decode cX10_readTrain 31 = .ok (.bipush 40, 2) := by decide +kernel
theorem dX10_readTrain_33 : decode cX10_readTrain 33 = .ok (.if_icmp .gt 47, 3) := by decide +kernel
theorem dX10_readTrain_36 : decode cX10_readTrain 36 = .ok (.aload_n 0, 1) := by decide +kernel
theorem dX10_readTrain_37 : decode cX10_readTrain 37 = .ok (.getfield 15, 3) := by decide +kernel
theorem dX10_readTrain_40 : decode cX10_readTrain 40 = .ok (.getfield 34, 3) := by decide +kernel
theorem dX10_readTrain_43 : decode cX10_readTrain 43 = .ok (.ifCond .ne 37, 3) := by decide +kernel
theorem dX10_readTrain_46 : decode cX10_readTrain 46 = .ok (.aload_n 0, 1) := by decide +kernel
theorem dX10_readTrain_47 : decode cX10_readTrain 47 = .ok (.getfield 15, 3) := by decide +kernel
theorem dX10_readTrain_50 : decode cX10_readTrain 50 = .ok (.getfield 38, 3) := by decide +kernel
theorem dX10_readTrain_53 : decode cX10_readTrain 53 = .ok (.sipush 257, 3) := by decide +kernel
theorem dX10_readTrain_56 : decode cX10_readTrain 56 = .ok (.if_icmp .eq 24, 3) := by decide +kernel
theorem dX10_readTrain_59 : decode cX10_readTrain 59 = .ok (.aload_n 0, 1) := by decide +kernel
theorem dX10_readTrain_60 : decode cX10_readTrain 60 = .ok (.getfield 15, 3) := by decide +kernel
theorem dX10_readTrain_63 : decode cX10_readTrain 63 = .ok (.bipush 59, 2) := by decide +kernel
theorem dX10_readTrain_65 : decode cX10_readTrain 65 = .ok (.invokevirtual 41, 3) := by decide +kernel
theorem dX10_readTrain_68 : decode cX10_readTrain 68 = .ok (.aload_n 0, 1) := by decide +kernel
theorem dX10_readTrain_69 : decode cX10_readTrain 69 = .ok (.aload_n 1, 1) := by decide +kernel
theorem dX10_readTrain_70 : decode cX10_readTrain 70 = .ok (.iload_n 2, 1) := by decide +kernel
theorem dX10_readTrain_71 : decode cX10_readTrain 71 = .ok (.invokevirtual 30, 3) := by decide +kernel
theorem dX10_readTrain_74 : decode cX10_readTrain 74 = .ok (.iinc 2 1, 3) := by decide +kernel
theorem dX10_readTrain_77 : decode cX10_readTrain 77 = .ok (.goto (-47), 3) := by decide +kernel
theorem dX10_readTrain_80 : decode cX10_readTrain 80 = .ok (.aload_n 1, 1) := by decide +kernel
theorem dX10_readTrain_81 : decode cX10_readTrain 81 = .ok (.iconst 1, 1) := by decide +kernel
theorem dX10_readTrain_82 : decode cX10_readTrain 82 = .ok (.putfield 45, 3) := by decide +kernel
theorem dX10_readTrain_85 : decode cX10_readTrain 85 = .ok (.aload_n 0, 1) := by decide +kernel
theorem dX10_readTrain_86 : decode cX10_readTrain 86 = .ok (.getfield 15, 3) := by decide +kernel
theorem dX10_readTrain_89 : decode cX10_readTrain 89 = .ok (.getfield 34, 3) := by decide +kernel
theorem dX10_readTrain_92 : decode cX10_readTrain 92 = .ok (.ifCond .ne 7, 3) := by decide +kernel
theorem dX10_readTrain_95 : decode cX10_readTrain 95 = .ok (.aload_n 1, 1) := by decide +kernel
theorem dX10_readTrain_96 : decode cX10_readTrain 96 = .ok (.goto 4, 3) := by decide +kernel
theorem dX10_readTrain_99 : decode cX10_readTrain 99 = .ok (.aconst_null, 1) := by decide +kernel
theorem dX10_readTrain_100 : decode cX10_readTrain 100 = .ok (.areturn, 1) := by decide +kernel
noncomputable def F_X10_readTrain_30 (G : GG) (v0 : Nat) (v1 : Nat) (K_80 : AH → Option (Option Nat × AH)) (self_30 : Int32 → AH → Option (Option Nat × AH)) (v2 : Int32) (h : AH) : Option (Option Nat × AH) :=
if (40 : Int32) < v2 then (K_80 h) else
ck (m_t h v0 = .inl 10) <|
ob (m_r h v0 0) fun b16 =>
ck (m_t h b16 = .inl 8) <|
if (m_i h b16 9) = 0 then (ob (m_r h v0 0) fun b19 =>
ck (m_t h b19 = .inl 8) <|
if (m_i h b19 7) = (257 : Int32) then (K_80 h) else
ob (m_r h v0 0) fun b22 =>
ck (m_t h b22 = .inl 8) <|
ob (lrv 0 b22 (s_X8_takeByte G (59 : Int32)) h) fun h24 =>
ck (m_t h24 v0 = .inl 10) <|
ob (f_X10_readClause G v0 v1 v2 h24) fun h27 =>
nn (v2 + (1 : Int32)) fun x29 =>
self_30 x29 h27) else
K_80 h
noncomputable def f_X10_readTrain (G : GG) (v0 : Nat) (h : AH) : Option (Option Nat × AH) :=
nn (m_n h) fun x1 =>
nn (m_new h (.inl 9)) fun h2 =>
ob (f_X9_init G x1 h2) fun h3 =>
ck (m_t h3 v0 = .inl 10) <|
nn (m_si h3 v0 1 (0 : Int32)) fun h6 =>
ob (m_r h6 v0 0) fun b7 =>
ck (m_t h6 b7 = .inl 8) <|
ob (lrv 0 b7 (s_X8_open G ((G.2.2.2.1 0))) h6) fun h9 =>
ck (m_t h9 v0 = .inl 10) <|
ob (f_X10_readClause G v0 x1 (0 : Int32) h9) fun h12 =>
lq1 (F_X10_readTrain_30 G v0 x1 (fun (h_80 : AH) => (ck (m_t h_80 x1 = .inl 9) <|
nn (m_si h_80 x1 0 (1 : Int32)) fun h31 =>
ck (m_t h31 v0 = .inl 10) <|
ob (m_r h31 v0 0) fun b33 =>
ck (m_t h31 b33 = .inl 8) <|
if (m_i h31 b33 9) = 0 then (some (some x1, h31)) else
some (none, h31)))) bN (1 : Int32) h12
set_option maxHeartbeats 4000000 in
set_option maxRecDepth 100000 in
theorem el_X10_readTrain_30 {G : GG} {p : Program} {l : Launch} {e : Env} {s : State} {m : MethodId} {args : Array Value} {below : List Frame} {meth : Method} {c : Code} {y : Option Nat × AH} (C : Cx G cX10_readTrain RX10 p s m args meth c) (hm : c.maxLocals = 3) (hr : meth.sig.returnType = (some (.object "StrapWindow$Train"))) (hin : meth.name = yX10_readTrain.name) {v0 : Nat} {v1 : Nat} {K_80 : AH → Option (Option Nat × AH)} (hK_80 : ∀ (h : AH), K_80 h = some y → EE G p l e ({ frames := 8, cells := 15, slots := 103, locals := 181 } : Room) s m args below meth c (some (va_rf y.1), y.2) 15 103 80 [(0, .ref v0), (1, .ref v1)] [] h 15 103) :
    ∀ (n : Nat) (v2 : Int32) (h : AH), lq1 (F_X10_readTrain_30 G v0 v1 K_80) n v2 h = some y → EE G p l e ({ frames := 8, cells := 15, slots := 103, locals := 181 } : Room) s m args below meth c (some (va_rf y.1), y.2) 15 103 30 [(0, .ref v0), (1, .ref v1), (2, .int v2)] [] h 15 103 := by
  intro n
  induction n with
  | zero => intro v2 h hf; exact (no_e hf).elim
  | succ n ih_30 =>
    intro v2 h hf
    have hf : F_X10_readTrain_30 G v0 v1 K_80 (lq1 (F_X10_readTrain_30 G v0 v1 K_80) n) v2 h = some y := hf
    generalize lq1 (F_X10_readTrain_30 G v0 v1 K_80) n = self_30 at hf ih_30
    unfold F_X10_readTrain_30 at hf
    refine e_iload_n (pc := 30) C dX10_readTrain_30 2 rfl rfl ?_
    refine e_bipush (v := (40 : Int32)) (pc := 31) C dX10_readTrain_31 (by decide) ?_
    rcases it_e hf with ⟨c14, hf⟩ | ⟨c14, hf⟩
    · refine e_icmp_gt (pc := 33) (tgt := 80) C dX10_readTrain_33 (by decide) (fun _ => ?_) (fun q => absurd c14 q)
      refine e_lv (lv2 := [(0, .ref v0), (1, .ref v1)]) [0, 1] rfl ?_
      exact hK_80 h hf
    · refine e_icmp_gt (pc := 33) (tgt := 80) C dX10_readTrain_33 (by decide) (fun q => absurd q c14) (fun _ => ?_)
      refine e_aload_n (pc := 36) C dX10_readTrain_36 0 rfl rfl ?_
      obtain ⟨t15, hf⟩ := ck_e hf
      refine e_getr (pc := 37) 10 0 C dX10_readTrain_37 (by decide) (by decide) g227 rfl t15 ?_
      obtain ⟨b16, eb16, hf⟩ := ob_e hf
      refine e_rf eb16 ?_
      obtain ⟨t17, hf⟩ := ck_e hf
      refine e_getiN (pc := 40) 8 9 C dX10_readTrain_40 (by decide) (by decide) g196 rfl t17 ?_
      rcases it_e hf with ⟨c18, hf⟩ | ⟨c18, hf⟩
      · refine e_if_ne (pc := 43) (tgt := 80) C dX10_readTrain_43 (by decide) (fun q => absurd c18 q) (fun _ => ?_)
        refine e_aload_n (pc := 46) C dX10_readTrain_46 0 rfl rfl ?_
        refine e_getr (pc := 47) 10 0 C dX10_readTrain_47 (by decide) (by decide) g227 rfl t15 ?_
        obtain ⟨b19, eb19, hf⟩ := ob_e hf
        refine e_rf eb19 ?_
        obtain ⟨t20, hf⟩ := ck_e hf
        refine e_getiN (pc := 50) 8 7 C dX10_readTrain_50 (by decide) (by decide) g190 rfl t20 ?_
        refine e_sipush (v := (257 : Int32)) (pc := 53) C dX10_readTrain_53 (by decide) ?_
        rcases it_e hf with ⟨c21, hf⟩ | ⟨c21, hf⟩
        · refine e_icmp_eq (pc := 56) (tgt := 80) C dX10_readTrain_56 (by decide) (fun _ => ?_) (fun q => absurd c21 q)
          refine e_lv (lv2 := [(0, .ref v0), (1, .ref v1)]) [0, 1] rfl ?_
          exact hK_80 h hf
        · refine e_icmp_eq (pc := 56) (tgt := 80) C dX10_readTrain_56 (by decide) (fun q => absurd q c21) (fun _ => ?_)
          refine e_aload_n (pc := 59) C dX10_readTrain_59 0 rfl rfl ?_
          refine e_getr (pc := 60) 10 0 C dX10_readTrain_60 (by decide) (by decide) g227 rfl t15 ?_
          obtain ⟨b22, eb22, hf⟩ := ob_e hf
          refine e_rf eb22 ?_
          refine e_bipush (v := (59 : Int32)) (pc := 63) C dX10_readTrain_63 (by decide) ?_
          obtain ⟨t23, hf⟩ := ck_e hf
          obtain ⟨h24, y25, hf⟩ := ob_e hf
          refine e_callVv (pc := 65) (st := []) 8 C (lr_ctv (o := 0) (fun hI => st_X8_takeByte hI) y25) dX10_readTrain_65 (by decide) t23 g768 g769 g770 g147 g771 hd_X8_takeByte rfl ⟨Nat.le_of_ble_eq_true rfl, Nat.le_of_ble_eq_true rfl⟩ ⟨Nat.le_of_ble_eq_true rfl, Nat.le_of_ble_eq_true rfl⟩ rfl (Nat.le_of_ble_eq_true rfl) ?_
          refine e_aload_n (pc := 68) C dX10_readTrain_68 0 rfl rfl ?_
          refine e_aload_n (pc := 69) C dX10_readTrain_69 1 rfl rfl ?_
          refine e_iload_n (pc := 70) C dX10_readTrain_70 2 rfl rfl ?_
          obtain ⟨t26, hf⟩ := ck_e hf
          obtain ⟨h27, y28, hf⟩ := ob_e hf
          refine e_callVv (pc := 71) (st := []) 10 C (ct_X10_readClause y28) dX10_readTrain_71 (by decide) t26 g718 g720 g5 g148 g721 hd_X10_readClause rfl ⟨Nat.le_of_ble_eq_true rfl, Nat.le_of_ble_eq_true rfl⟩ ⟨Nat.le_of_ble_eq_true rfl, Nat.le_of_ble_eq_true rfl⟩ rfl (Nat.le_of_ble_eq_true rfl) ?_
          obtain ⟨x29, ex29, hf⟩ := nn_e hf
          refine e_iinc (pc := 74) (v := x29) (lv2 := [(2, .int x29), (0, .ref v0), (1, .ref v1)]) C hm dX10_readTrain_74 2 rfl (by rw [ex29]; rfl) (by decide) rfl ?_
          refine e_goto (pc := 77) (tgt := 30) C dX10_readTrain_77 (by decide) ?_
          refine e_lv (lv2 := [(0, .ref v0), (1, .ref v1), (2, .int x29)]) [1, 2, 0] rfl ?_
          exact ih_30 x29 h27 hf
      · refine e_if_ne (pc := 43) (tgt := 80) C dX10_readTrain_43 (by decide) (fun _ => ?_) (fun q => absurd q c18)
        refine e_lv (lv2 := [(0, .ref v0), (1, .ref v1)]) [0, 1] rfl ?_
        exact hK_80 h hf
set_option maxHeartbeats 4000000 in
set_option maxRecDepth 100000 in
theorem ct_X10_readTrain {G : GG} {l : Launch} {v0 : Nat} {h : AH} {y : Option Nat × AH} (hf : f_X10_readTrain G v0 h = some y) : Ct G l yX10_readTrain cX10_readTrain 3 (some (.object "StrapWindow$Train")) 8 181 15 103 [.ref v0] h (some (va_rf y.1), y.2) := by
  refine ct_of (by decide) (Nat.le_of_ble_eq_true rfl) ?_
  intro p e s m args below meth c C hm hr hin
  have C : Cx G cX10_readTrain RX10 p s m args meth c := C
  refine e_lv (lv2 := [(0, .ref v0)]) [0] rfl ?_
  unfold f_X10_readTrain at hf
  refine e_new (pc := 0) (ci := 9) C dX10_readTrain_0 (by decide) g633 g260 g152 (Nat.le_of_ble_eq_true rfl) (Nat.le_of_ble_eq_true rfl) ?_
  obtain ⟨x1, ex1, hf⟩ := nn_e hf
  refine e_topr ex1 ?_
  obtain ⟨h2, eh2, hf⟩ := nn_e hf
  refine e_hp eh2 ?_
  have tx1 : m_t h2 x1 = .inl 9 := by rw [eh2, ex1]; simp [m_t, m_new, m_n, va_up]
  refine e_dup (pc := 3) C dX10_readTrain_3 rfl ?_
  obtain ⟨h3, y4, hf⟩ := ob_e hf
  refine e_callIv (pc := 4) (st := [.ref x1]) C (ct_X9_init y4) dX10_readTrain_4 g634 g262 g152 g263 rfl hd_X9_init rfl ⟨Nat.le_of_ble_eq_true rfl, Nat.le_of_ble_eq_true rfl⟩ ⟨Nat.le_of_ble_eq_true rfl, Nat.le_of_ble_eq_true rfl⟩ rfl (Nat.le_of_ble_eq_true rfl) ?_
  refine e_astore_n (pc := 7) (lv2 := [(1, .ref x1), (0, .ref v0)]) C hm dX10_readTrain_7 rfl (by decide) rfl ?_
  refine e_aload_n (pc := 8) C dX10_readTrain_8 1 rfl rfl ?_
  refine e_iconst (v := (0 : Int32)) (pc := 9) C dX10_readTrain_9 (by decide) ?_
  obtain ⟨t5, hf⟩ := ck_e hf
  refine e_puti (pc := 10) 10 1 C dX10_readTrain_10 (by decide) (by decide) g228 rfl rfl rfl (nz_ok (by decide)) t5 ?_
  obtain ⟨h6, eh6, hf⟩ := nn_e hf
  refine e_hp eh6 ?_
  have uh6 : m_t h6 = m_t h3 := by rw [eh6]; exact rfl
  refine e_aload_n (pc := 13) C dX10_readTrain_13 1 rfl rfl ?_
  refine e_getr (pc := 14) 10 0 C dX10_readTrain_14 (by decide) (by decide) g227 rfl (e_mt uh6 t5) ?_
  obtain ⟨b7, eb7, hf⟩ := ob_e hf
  refine e_rf eb7 ?_
  refine e_ldcS (pc := 17) C dX10_readTrain_17 0 rfl ?_
  obtain ⟨t8, hf⟩ := ck_e hf
  obtain ⟨h9, y10, hf⟩ := ob_e hf
  refine e_callVv (pc := 19) (st := []) 8 C (lr_ctv (o := 0) (fun hI => st_X8_open hI) y10) dX10_readTrain_19 (by decide) t8 g636 g637 g638 g147 g639 hd_X8_open rfl ⟨Nat.le_of_ble_eq_true rfl, Nat.le_of_ble_eq_true rfl⟩ ⟨Nat.le_of_ble_eq_true rfl, Nat.le_of_ble_eq_true rfl⟩ rfl (Nat.le_of_ble_eq_true rfl) ?_
  refine e_aload_n (pc := 22) C dX10_readTrain_22 1 rfl rfl ?_
  refine e_aload_n (pc := 23) C dX10_readTrain_23 0 rfl rfl ?_
  refine e_iconst (v := (0 : Int32)) (pc := 24) C dX10_readTrain_24 (by decide) ?_
  obtain ⟨t11, hf⟩ := ck_e hf
  obtain ⟨h12, y13, hf⟩ := ob_e hf
  refine e_callVv (pc := 25) (st := []) 10 C (ct_X10_readClause y13) dX10_readTrain_25 (by decide) t11 g718 g720 g5 g148 g721 hd_X10_readClause rfl ⟨Nat.le_of_ble_eq_true rfl, Nat.le_of_ble_eq_true rfl⟩ ⟨Nat.le_of_ble_eq_true rfl, Nat.le_of_ble_eq_true rfl⟩ rfl (Nat.le_of_ble_eq_true rfl) ?_
  refine e_iconst (v := (1 : Int32)) (pc := 28) C dX10_readTrain_28 (by decide) ?_
  refine e_istore_n (pc := 29) (lv2 := [(2, .int (1 : Int32)), (1, .ref x1), (0, .ref v0)]) C hm dX10_readTrain_29 rfl (by decide) rfl ?_
  refine e_lv (lv2 := [(0, .ref v0), (1, .ref x1), (2, .int (1 : Int32))]) [2, 1, 0] rfl ?_
  refine el_X10_readTrain_30 C hm hr hin (fun h_80 hf => ?_) bN (1 : Int32) h12 hf
  refine e_aload_n (pc := 80) C dX10_readTrain_80 1 rfl rfl ?_
  refine e_iconst (v := (1 : Int32)) (pc := 81) C dX10_readTrain_81 (by decide) ?_
  obtain ⟨t30, hf⟩ := ck_e hf
  refine e_putiN (pc := 82) 9 0 C dX10_readTrain_82 (by decide) (by decide) g313 rfl rfl rfl (nz_ok (by decide)) t30 ?_
  obtain ⟨h31, eh31, hf⟩ := nn_e hf
  refine e_hp eh31 ?_
  have uh31 : m_t h31 = m_t h_80 := by rw [eh31]; exact rfl
  refine e_aload_n (pc := 85) C dX10_readTrain_85 0 rfl rfl ?_
  obtain ⟨t32, hf⟩ := ck_e hf
  refine e_getr (pc := 86) 10 0 C dX10_readTrain_86 (by decide) (by decide) g227 rfl t32 ?_
  obtain ⟨b33, eb33, hf⟩ := ob_e hf
  refine e_rf eb33 ?_
  obtain ⟨t34, hf⟩ := ck_e hf
  refine e_getiN (pc := 89) 8 9 C dX10_readTrain_89 (by decide) (by decide) g196 rfl t34 ?_
  rcases it_e hf with ⟨c35, hf⟩ | ⟨c35, hf⟩
  · refine e_if_ne (pc := 92) (tgt := 99) C dX10_readTrain_92 (by decide) (fun q => absurd c35 q) (fun _ => ?_)
    refine e_aload_n (pc := 95) C dX10_readTrain_95 1 rfl rfl ?_
    refine e_goto (pc := 96) (tgt := 100) C dX10_readTrain_96 (by decide) ?_
    obtain rfl := so_e hf
    exact e_aret (pc := 100) (r := some x1) C hr (by simp) dX10_readTrain_100 (Nat.le_of_ble_eq_true rfl) (Nat.le_of_ble_eq_true rfl)
  · refine e_if_ne (pc := 92) (tgt := 99) C dX10_readTrain_92 (by decide) (fun _ => ?_) (fun q => absurd q c35)
    refine e_null (pc := 99) C dX10_readTrain_99 ?_
    obtain rfl := so_e hf
    exact e_aret (pc := 100) (r := none) C hr (by simp) dX10_readTrain_100 (Nat.le_of_ble_eq_true rfl) (Nat.le_of_ble_eq_true rfl)
theorem dX3_init_0 : decode cX3_init 0 = .ok (.aload_n 0, 1) := by decide +kernel
theorem dX3_init_1 : decode cX3_init 1 = .ok (.invokespecial 3, 3) := by decide +kernel
theorem dX3_init_4 : decode cX3_init 4 = .ok (.aload_n 0, 1) := by decide +kernel
theorem dX3_init_5 : decode cX3_init 5 = .ok (.sipush 400, 3) := by decide +kernel
theorem dX3_init_8 : decode cX3_init 8 = .ok (.newarray .int, 2) := by decide +kernel
theorem dX3_init_10 : decode cX3_init 10 = .ok (.putfield 9, 3) := by decide +kernel
theorem dX3_init_13 : decode cX3_init 13 = .ok (.aload_n 0, 1) := by decide +kernel
theorem dX3_init_14 : decode cX3_init 14 = .ok (.iconst 0, 1) := by decide +kernel
theorem dX3_init_15 : decode cX3_init 15 = .ok (.putfield 15, 3) := by decide +kernel
theorem dX3_init_18 : decode cX3_init 18 = .ok (.aload_n 0, 1) := by decide +kernel
theorem dX3_init_19 : decode cX3_init 19 = .ok (.iconst 0, 1) := by decide +kernel
theorem dX3_init_20 : decode cX3_init 20 = .ok (.putfield 19, 3) := by decide +kernel
theorem dX3_init_23 : decode cX3_init 23 = .ok (.aload_n 0, 1) := by decide +kernel
theorem dX3_init_24 : decode cX3_init 24 = .ok (.aload_n 1, 1) := by decide +kernel
theorem dX3_init_25 : decode cX3_init 25 = .ok (.putfield 22, 3) := by decide +kernel
theorem dX3_init_28 : decode cX3_init 28 = .ok (.return_, 1) := by decide +kernel
noncomputable def f_X3_init (G : GG) (v0 : Nat) (v1 : Nat) (h : AH) : Option (AH) :=
nn (m_n h) fun x1 =>
nn (m_new h (.inr (.int, 400))) fun h2 =>
ck (m_t h2 v0 = .inl 3) <|
nn (m_sr h2 v0 1 (some x1)) fun h4 =>
nn (m_si h4 v0 2 (0 : Int32)) fun h5 =>
nn (m_si h5 v0 3 (0 : Int32)) fun h6 =>
nn (m_sr h6 v0 0 (some v1)) fun h7 =>
some h7
set_option maxHeartbeats 4000000 in
set_option maxRecDepth 100000 in
theorem ct_X3_init {G : GG} {l : Launch} {v0 : Nat} {v1 : Nat} {h : AH} {y : AH} (hf : f_X3_init G v0 v1 h = some y) : Ct G l yX3_init cX3_init 2 none 1 24 1 400 [.ref v0, .ref v1] h (none, y) := by
  refine ct_of (by decide) (Nat.le_of_ble_eq_true rfl) ?_
  intro p e s m args below meth c C hm hr hin
  have C : Cx G cX3_init RX3 p s m args meth c := C
  refine e_lv (lv2 := [(0, .ref v0), (1, .ref v1)]) [0, 1] rfl ?_
  unfold f_X3_init at hf
  refine e_aload_n (pc := 0) C dX3_init_0 0 rfl rfl ?_
  refine e_objInit (pc := 1) C dX3_init_1 g239 g173 g174 (Nat.le_of_ble_eq_true rfl) (Nat.le_of_ble_eq_true rfl) ?_
  refine e_aload_n (pc := 4) C dX3_init_4 0 rfl rfl ?_
  refine e_sipush (v := (400 : Int32)) (pc := 5) C dX3_init_5 (by decide) ?_
  refine e_newi (pc := 8) C dX3_init_8 g220 (by decide) (N := 400) (by decide) (by decide) (Nat.le_of_ble_eq_true rfl) (Nat.le_of_ble_eq_true rfl) ?_
  obtain ⟨x1, ex1, hf⟩ := nn_e hf
  refine e_topr ex1 ?_
  obtain ⟨h2, eh2, hf⟩ := nn_e hf
  refine e_hp eh2 ?_
  obtain ⟨t3, hf⟩ := ck_e hf
  refine e_putrF (pc := 10) (x := some x1) 3 1 C hin dX3_init_10 (by decide) (by decide) g241 rfl rfl rfl rfl rfl t3 ?_
  obtain ⟨h4, eh4, hf⟩ := nn_e hf
  refine e_hp eh4 ?_
  have uh4 : m_t h4 = m_t h2 := by rw [eh4]; exact rfl
  refine e_aload_n (pc := 13) C dX3_init_13 0 rfl rfl ?_
  refine e_iconst (v := (0 : Int32)) (pc := 14) C dX3_init_14 (by decide) ?_
  refine e_puti (pc := 15) 3 2 C dX3_init_15 (by decide) (by decide) g242 rfl rfl rfl rfl (e_mt uh4 t3) ?_
  obtain ⟨h5, eh5, hf⟩ := nn_e hf
  refine e_hp eh5 ?_
  have uh5 : m_t h5 = m_t h2 := by rw [eh5]; exact uh4
  refine e_aload_n (pc := 18) C dX3_init_18 0 rfl rfl ?_
  refine e_iconst (v := (0 : Int32)) (pc := 19) C dX3_init_19 (by decide) ?_
  refine e_puti (pc := 20) 3 3 C dX3_init_20 (by decide) (by decide) g243 rfl rfl rfl rfl (e_mt uh5 t3) ?_
  obtain ⟨h6, eh6, hf⟩ := nn_e hf
  refine e_hp eh6 ?_
  have uh6 : m_t h6 = m_t h2 := by rw [eh6]; exact uh5
  refine e_aload_n (pc := 23) C dX3_init_23 0 rfl rfl ?_
  refine e_aload_n (pc := 24) C dX3_init_24 1 rfl rfl ?_
  refine e_putrF (pc := 25) (x := some v1) 3 0 C hin dX3_init_25 (by decide) (by decide) g240 rfl rfl rfl rfl rfl (e_mt uh6 t3) ?_
  obtain ⟨h7, eh7, hf⟩ := nn_e hf
  refine e_hp eh7 ?_
  have uh7 : m_t h7 = m_t h2 := by rw [eh7]; exact uh6
  obtain rfl := so_e hf
  exact e_vret (pc := 28) C hr dX3_init_28 (Nat.le_of_ble_eq_true rfl) (Nat.le_of_ble_eq_true rfl)
theorem dX0_init_0 : decode cX0_init 0 = .ok (.aload_n 0, 1) := by decide +kernel
theorem dX0_init_1 : decode cX0_init 1 = .ok (.invokespecial 3, 3) := by decide +kernel
theorem dX0_init_4 : decode cX0_init 4 = .ok (.aload_n 0, 1) := by decide +kernel
theorem dX0_init_5 : decode cX0_init 5 = .ok (.aconst_null, 1) := by decide +kernel
theorem dX0_init_6 : decode cX0_init 6 = .ok (.putfield 9, 3) := by decide +kernel
theorem dX0_init_9 : decode cX0_init 9 = .ok (.aload_n 0, 1) := by decide +kernel
theorem dX0_init_10 : decode cX0_init 10 = .ok (.iconst 0, 1) := by decide +kernel
theorem dX0_init_11 : decode cX0_init 11 = .ok (.putfield 15, 3) := by decide +kernel
theorem dX0_init_14 : decode cX0_init 14 = .ok (.aload_n 0, 1) := by decide +kernel
theorem dX0_init_15 : decode cX0_init 15 = .ok (.iconst 0, 1) := by decide +kernel
theorem dX0_init_16 : decode cX0_init 16 = .ok (.putfield 19, 3) := by decide +kernel
theorem dX0_init_19 : decode cX0_init 19 = .ok (.aload_n 0, 1) := by decide +kernel
theorem dX0_init_20 : decode cX0_init 20 = .ok (.iconst 0, 1) := by decide +kernel
theorem dX0_init_21 : decode cX0_init 21 = .ok (.putfield 22, 3) := by decide +kernel
theorem dX0_init_24 : decode cX0_init 24 = .ok (.aload_n 0, 1) := by decide +kernel
theorem dX0_init_25 : decode cX0_init 25 = .ok (.iconst 0, 1) := by decide +kernel
theorem dX0_init_26 : decode cX0_init 26 = .ok (.putfield 25, 3) := by decide +kernel
theorem dX0_init_29 : decode cX0_init 29 = .ok (.aload_n 0, 1) := by decide +kernel
theorem dX0_init_30 : decode cX0_init 30 = .ok (.bipush 8, 2) := by decide +kernel
theorem dX0_init_32 : decode cX0_init 32 = .ok (.newarray .int, 2) := by decide +kernel
theorem dX0_init_34 : decode cX0_init 34 = .ok (.putfield 28, 3) := by decide +kernel
theorem dX0_init_37 : decode cX0_init 37 = .ok (.aload_n 0, 1) := by decide +kernel
theorem dX0_init_38 : decode cX0_init 38 = .ok (.bipush 8, 2) := by decide +kernel
theorem dX0_init_40 : decode cX0_init 40 = .ok (.newarray .int, 2) := by decide +kernel
theorem dX0_init_42 : decode cX0_init 42 = .ok (.putfield 32, 3) := by decide +kernel
theorem dX0_init_45 : decode cX0_init 45 = .ok (.aload_n 0, 1) := by decide +kernel
theorem dX0_init_46 : decode cX0_init 46 = .ok (.bipush 8, 2) := by decide +kernel
theorem dX0_init_48 : decode cX0_init 48 = .ok (.newarray .int, 2) := by decide +kernel
theorem dX0_init_50 : decode cX0_init 50 = .ok (.putfield 35, 3) := by decide +kernel
theorem dX0_init_53 : decode cX0_init 53 = .ok (.aload_n 0, 1) := by decide +kernel
theorem dX0_init_54 : decode cX0_init 54 = .ok (.bipush 8, 2) := by decide +kernel
theorem dX0_init_56 : decode cX0_init 56 = .ok (.newarray .int, 2) := by decide +kernel
theorem dX0_init_58 : decode cX0_init 58 = .ok (.putfield 38, 3) := by decide +kernel
theorem dX0_init_61 : decode cX0_init 61 = .ok (.aload_n 0, 1) := by decide +kernel
theorem dX0_init_62 : decode cX0_init 62 = .ok (.aload_n 1, 1) := by decide +kernel
theorem dX0_init_63 : decode cX0_init 63 = .ok (.putfield 41, 3) := by decide +kernel
theorem dX0_init_66 : decode cX0_init 66 = .ok (.return_, 1) := by decide +kernel
noncomputable def f_X0_init (G : GG) (v0 : Nat) (v1 : Nat) (h : AH) : Option (AH) :=
ck (m_t h v0 = .inl 0) <|
nn (m_sr h v0 1 (none)) fun h2 =>
nn (m_si h2 v0 2 (0 : Int32)) fun h3 =>
nn (m_si h3 v0 3 (0 : Int32)) fun h4 =>
nn (m_si h4 v0 4 (0 : Int32)) fun h5 =>
nn (m_si h5 v0 5 (0 : Int32)) fun h6 =>
nn (m_n h6) fun x7 =>
nn (m_new h6 (.inr (.int, 8))) fun h8 =>
ck (m_t h8 v0 = .inl 0) <|
nn (m_sr h8 v0 6 (some x7)) fun h10 =>
nn (m_n h10) fun x11 =>
nn (m_new h10 (.inr (.int, 8))) fun h12 =>
ck (m_t h12 v0 = .inl 0) <|
nn (m_sr h12 v0 7 (some x11)) fun h14 =>
nn (m_n h14) fun x15 =>
nn (m_new h14 (.inr (.int, 8))) fun h16 =>
ck (m_t h16 v0 = .inl 0) <|
nn (m_sr h16 v0 8 (some x15)) fun h18 =>
nn (m_n h18) fun x19 =>
nn (m_new h18 (.inr (.int, 8))) fun h20 =>
ck (m_t h20 v0 = .inl 0) <|
nn (m_sr h20 v0 9 (some x19)) fun h22 =>
nn (m_sr h22 v0 0 (some v1)) fun h23 =>
some h23
set_option maxHeartbeats 4000000 in
set_option maxRecDepth 100000 in
theorem ct_X0_init {G : GG} {l : Launch} {v0 : Nat} {v1 : Nat} {h : AH} {y : AH} (hf : f_X0_init G v0 v1 h = some y) : Ct G l yX0_init cX0_init 2 none 1 24 4 32 [.ref v0, .ref v1] h (none, y) := by
  refine ct_of (by decide) (Nat.le_of_ble_eq_true rfl) ?_
  intro p e s m args below meth c C hm hr hin
  have C : Cx G cX0_init RX0 p s m args meth c := C
  refine e_lv (lv2 := [(0, .ref v0), (1, .ref v1)]) [0, 1] rfl ?_
  unfold f_X0_init at hf
  refine e_aload_n (pc := 0) C dX0_init_0 0 rfl rfl ?_
  refine e_objInit (pc := 1) C dX0_init_1 g392 g173 g174 (Nat.le_of_ble_eq_true rfl) (Nat.le_of_ble_eq_true rfl) ?_
  refine e_aload_n (pc := 4) C dX0_init_4 0 rfl rfl ?_
  refine e_null (pc := 5) C dX0_init_5 ?_
  obtain ⟨t1, hf⟩ := ck_e hf
  refine e_putr (pc := 6) (x := none) 0 1 C dX0_init_6 (by decide) (by decide) g400 rfl rfl rfl rfl t1 ?_
  obtain ⟨h2, eh2, hf⟩ := nn_e hf
  refine e_hp eh2 ?_
  have uh2 : m_t h2 = m_t h := by rw [eh2]; exact rfl
  refine e_aload_n (pc := 9) C dX0_init_9 0 rfl rfl ?_
  refine e_iconst (v := (0 : Int32)) (pc := 10) C dX0_init_10 (by decide) ?_
  refine e_puti (pc := 11) 0 2 C dX0_init_11 (by decide) (by decide) g402 rfl rfl rfl rfl (e_mt uh2 t1) ?_
  obtain ⟨h3, eh3, hf⟩ := nn_e hf
  refine e_hp eh3 ?_
  have uh3 : m_t h3 = m_t h := by rw [eh3]; exact uh2
  refine e_aload_n (pc := 14) C dX0_init_14 0 rfl rfl ?_
  refine e_iconst (v := (0 : Int32)) (pc := 15) C dX0_init_15 (by decide) ?_
  refine e_puti (pc := 16) 0 3 C dX0_init_16 (by decide) (by decide) g407 rfl rfl rfl rfl (e_mt uh3 t1) ?_
  obtain ⟨h4, eh4, hf⟩ := nn_e hf
  refine e_hp eh4 ?_
  have uh4 : m_t h4 = m_t h := by rw [eh4]; exact uh3
  refine e_aload_n (pc := 19) C dX0_init_19 0 rfl rfl ?_
  refine e_iconst (v := (0 : Int32)) (pc := 20) C dX0_init_20 (by decide) ?_
  refine e_puti (pc := 21) 0 4 C dX0_init_21 (by decide) (by decide) g412 rfl rfl rfl rfl (e_mt uh4 t1) ?_
  obtain ⟨h5, eh5, hf⟩ := nn_e hf
  refine e_hp eh5 ?_
  have uh5 : m_t h5 = m_t h := by rw [eh5]; exact uh4
  refine e_aload_n (pc := 24) C dX0_init_24 0 rfl rfl ?_
  refine e_iconst (v := (0 : Int32)) (pc := 25) C dX0_init_25 (by decide) ?_
  refine e_puti (pc := 26) 0 5 C dX0_init_26 (by decide) (by decide) g416 rfl rfl rfl rfl (e_mt uh5 t1) ?_
  obtain ⟨h6, eh6, hf⟩ := nn_e hf
  refine e_hp eh6 ?_
  have uh6 : m_t h6 = m_t h := by rw [eh6]; exact uh5
  refine e_aload_n (pc := 29) C dX0_init_29 0 rfl rfl ?_
  refine e_bipush (v := (8 : Int32)) (pc := 30) C dX0_init_30 (by decide) ?_
  refine e_newi (pc := 32) C dX0_init_32 g220 (by decide) (N := 8) (by decide) (by decide) (Nat.le_of_ble_eq_true rfl) (Nat.le_of_ble_eq_true rfl) ?_
  obtain ⟨x7, ex7, hf⟩ := nn_e hf
  refine e_topr ex7 ?_
  obtain ⟨h8, eh8, hf⟩ := nn_e hf
  refine e_hp eh8 ?_
  obtain ⟨t9, hf⟩ := ck_e hf
  refine e_putrF (pc := 34) (x := some x7) 0 6 C hin dX0_init_34 (by decide) (by decide) g421 rfl rfl rfl rfl rfl t9 ?_
  obtain ⟨h10, eh10, hf⟩ := nn_e hf
  refine e_hp eh10 ?_
  have uh10 : m_t h10 = m_t h8 := by rw [eh10]; exact rfl
  refine e_aload_n (pc := 37) C dX0_init_37 0 rfl rfl ?_
  refine e_bipush (v := (8 : Int32)) (pc := 38) C dX0_init_38 (by decide) ?_
  refine e_newi (pc := 40) C dX0_init_40 g220 (by decide) (N := 8) (by decide) (by decide) (Nat.le_of_ble_eq_true rfl) (Nat.le_of_ble_eq_true rfl) ?_
  obtain ⟨x11, ex11, hf⟩ := nn_e hf
  refine e_topr ex11 ?_
  obtain ⟨h12, eh12, hf⟩ := nn_e hf
  refine e_hp eh12 ?_
  obtain ⟨t13, hf⟩ := ck_e hf
  refine e_putrF (pc := 42) (x := some x11) 0 7 C hin dX0_init_42 (by decide) (by decide) g425 rfl rfl rfl rfl rfl t13 ?_
  obtain ⟨h14, eh14, hf⟩ := nn_e hf
  refine e_hp eh14 ?_
  have uh14 : m_t h14 = m_t h12 := by rw [eh14]; exact rfl
  refine e_aload_n (pc := 45) C dX0_init_45 0 rfl rfl ?_
  refine e_bipush (v := (8 : Int32)) (pc := 46) C dX0_init_46 (by decide) ?_
  refine e_newi (pc := 48) C dX0_init_48 g220 (by decide) (N := 8) (by decide) (by decide) (Nat.le_of_ble_eq_true rfl) (Nat.le_of_ble_eq_true rfl) ?_
  obtain ⟨x15, ex15, hf⟩ := nn_e hf
  refine e_topr ex15 ?_
  obtain ⟨h16, eh16, hf⟩ := nn_e hf
  refine e_hp eh16 ?_
  obtain ⟨t17, hf⟩ := ck_e hf
  refine e_putrF (pc := 50) (x := some x15) 0 8 C hin dX0_init_50 (by decide) (by decide) g428 rfl rfl rfl rfl rfl t17 ?_
  obtain ⟨h18, eh18, hf⟩ := nn_e hf
  refine e_hp eh18 ?_
  have uh18 : m_t h18 = m_t h16 := by rw [eh18]; exact rfl
  refine e_aload_n (pc := 53) C dX0_init_53 0 rfl rfl ?_
  refine e_bipush (v := (8 : Int32)) (pc := 54) C dX0_init_54 (by decide) ?_
  refine e_newi (pc := 56) C dX0_init_56 g220 (by decide) (N := 8) (by decide) (by decide) (Nat.le_of_ble_eq_true rfl) (Nat.le_of_ble_eq_true rfl) ?_
  obtain ⟨x19, ex19, hf⟩ := nn_e hf
  refine e_topr ex19 ?_
  obtain ⟨h20, eh20, hf⟩ := nn_e hf
  refine e_hp eh20 ?_
  obtain ⟨t21, hf⟩ := ck_e hf
  refine e_putrF (pc := 58) (x := some x19) 0 9 C hin dX0_init_58 (by decide) (by decide) g430 rfl rfl rfl rfl rfl t21 ?_
  obtain ⟨h22, eh22, hf⟩ := nn_e hf
  refine e_hp eh22 ?_
  have uh22 : m_t h22 = m_t h20 := by rw [eh22]; exact rfl
  refine e_aload_n (pc := 61) C dX0_init_61 0 rfl rfl ?_
  refine e_aload_n (pc := 62) C dX0_init_62 1 rfl rfl ?_
  refine e_putr (pc := 63) (x := some v1) 0 0 C dX0_init_63 (by decide) (by decide) g393 rfl rfl rfl rfl (e_mt uh22 t21) ?_
  obtain ⟨h23, eh23, hf⟩ := nn_e hf
  refine e_hp eh23 ?_
  have uh23 : m_t h23 = m_t h20 := by rw [eh23]; exact uh22
  obtain rfl := so_e hf
  exact e_vret (pc := 66) C hr dX0_init_66 (Nat.le_of_ble_eq_true rfl) (Nat.le_of_ble_eq_true rfl)
theorem dX6_init_0 : decode cX6_init 0 = .ok (.aload_n 0, 1) := by decide +kernel
theorem dX6_init_1 : decode cX6_init 1 = .ok (.invokespecial 3, 3) := by decide +kernel
theorem dX6_init_4 : decode cX6_init 4 = .ok (.aload_n 0, 1) := by decide +kernel
theorem dX6_init_5 : decode cX6_init 5 = .ok (.iconst 0, 1) := by decide +kernel
theorem dX6_init_6 : decode cX6_init 6 = .ok (.putfield 9, 3) := by decide +kernel
theorem dX6_init_9 : decode cX6_init 9 = .ok (.aload_n 0, 1) := by decide +kernel
theorem dX6_init_10 : decode cX6_init 10 = .ok (.iconst (-1), 1) := by decide +kernel
theorem dX6_init_11 : decode cX6_init 11 = .ok (.putfield 15, 3) := by decide +kernel
theorem dX6_init_14 : decode cX6_init 14 = .ok (.aload_n 0, 1) := by decide +kernel
theorem dX6_init_15 : decode cX6_init 15 = .ok (.iconst 0, 1) := by decide +kernel
theorem dX6_init_16 : decode cX6_init 16 = .ok (.putfield 18, 3) := by decide +kernel
theorem dX6_init_19 : decode cX6_init 19 = .ok (.aload_n 0, 1) := by decide +kernel
theorem dX6_init_20 : decode cX6_init 20 = .ok (.iconst 0, 1) := by decide +kernel
theorem dX6_init_21 : decode cX6_init 21 = .ok (.putfield 21, 3) := by decide +kernel
theorem dX6_init_24 : decode cX6_init 24 = .ok (.aload_n 0, 1) := by decide +kernel
theorem dX6_init_25 : decode cX6_init 25 = .ok (.bipush 10, 2) := by decide +kernel
theorem dX6_init_27 : decode cX6_init 27 = .ok (.newarray .int, 2) := by decide +kernel
theorem dX6_init_29 : decode cX6_init 29 = .ok (.putfield 24, 3) := by decide +kernel
theorem dX6_init_32 : decode cX6_init 32 = .ok (.aload_n 0, 1) := by decide +kernel
theorem dX6_init_33 : decode cX6_init 33 = .ok (.bipush 10, 2) := by decide +kernel
theorem dX6_init_35 : decode cX6_init 35 = .ok (.newarray .int, 2) := by decide +kernel
theorem dX6_init_37 : decode cX6_init 37 = .ok (.putfield 28, 3) := by decide +kernel
theorem dX6_init_40 : decode cX6_init 40 = .ok (.aload_n 0, 1) := by decide +kernel
theorem dX6_init_41 : decode cX6_init 41 = .ok (.aload_n 1, 1) := by decide +kernel
theorem dX6_init_42 : decode cX6_init 42 = .ok (.putfield 31, 3) := by decide +kernel
theorem dX6_init_45 : decode cX6_init 45 = .ok (.return_, 1) := by decide +kernel
noncomputable def f_X6_init (G : GG) (v0 : Nat) (v1 : Nat) (h : AH) : Option (AH) :=
ck (m_t h v0 = .inl 6) <|
nn (m_si h v0 1 (0 : Int32)) fun h2 =>
nn (m_si h2 v0 2 (-1 : Int32)) fun h3 =>
nn (m_si h3 v0 3 (0 : Int32)) fun h4 =>
nn (m_si h4 v0 4 (0 : Int32)) fun h5 =>
nn (m_n h5) fun x6 =>
nn (m_new h5 (.inr (.int, 10))) fun h7 =>
ck (m_t h7 v0 = .inl 6) <|
nn (m_sr h7 v0 5 (some x6)) fun h9 =>
nn (m_n h9) fun x10 =>
nn (m_new h9 (.inr (.int, 10))) fun h11 =>
ck (m_t h11 v0 = .inl 6) <|
nn (m_sr h11 v0 6 (some x10)) fun h13 =>
nn (m_sr h13 v0 0 (some v1)) fun h14 =>
some h14
set_option maxHeartbeats 4000000 in
set_option maxRecDepth 100000 in
theorem ct_X6_init {G : GG} {l : Launch} {v0 : Nat} {v1 : Nat} {h : AH} {y : AH} (hf : f_X6_init G v0 v1 h = some y) : Ct G l yX6_init cX6_init 2 none 1 24 2 20 [.ref v0, .ref v1] h (none, y) := by
  refine ct_of (by decide) (Nat.le_of_ble_eq_true rfl) ?_
  intro p e s m args below meth c C hm hr hin
  have C : Cx G cX6_init RX6 p s m args meth c := C
  refine e_lv (lv2 := [(0, .ref v0), (1, .ref v1)]) [0, 1] rfl ?_
  unfold f_X6_init at hf
  refine e_aload_n (pc := 0) C dX6_init_0 0 rfl rfl ?_
  refine e_objInit (pc := 1) C dX6_init_1 g456 g173 g174 (Nat.le_of_ble_eq_true rfl) (Nat.le_of_ble_eq_true rfl) ?_
  refine e_aload_n (pc := 4) C dX6_init_4 0 rfl rfl ?_
  refine e_iconst (v := (0 : Int32)) (pc := 5) C dX6_init_5 (by decide) ?_
  obtain ⟨t1, hf⟩ := ck_e hf
  refine e_puti (pc := 6) 6 1 C dX6_init_6 (by decide) (by decide) g460 rfl rfl rfl rfl t1 ?_
  obtain ⟨h2, eh2, hf⟩ := nn_e hf
  refine e_hp eh2 ?_
  have uh2 : m_t h2 = m_t h := by rw [eh2]; exact rfl
  refine e_aload_n (pc := 9) C dX6_init_9 0 rfl rfl ?_
  refine e_iconst (v := (-1 : Int32)) (pc := 10) C dX6_init_10 (by decide) ?_
  refine e_puti (pc := 11) 6 2 C dX6_init_11 (by decide) (by decide) g462 rfl rfl rfl rfl (e_mt uh2 t1) ?_
  obtain ⟨h3, eh3, hf⟩ := nn_e hf
  refine e_hp eh3 ?_
  have uh3 : m_t h3 = m_t h := by rw [eh3]; exact uh2
  refine e_aload_n (pc := 14) C dX6_init_14 0 rfl rfl ?_
  refine e_iconst (v := (0 : Int32)) (pc := 15) C dX6_init_15 (by decide) ?_
  refine e_puti (pc := 16) 6 3 C dX6_init_16 (by decide) (by decide) g464 rfl rfl rfl rfl (e_mt uh3 t1) ?_
  obtain ⟨h4, eh4, hf⟩ := nn_e hf
  refine e_hp eh4 ?_
  have uh4 : m_t h4 = m_t h := by rw [eh4]; exact uh3
  refine e_aload_n (pc := 19) C dX6_init_19 0 rfl rfl ?_
  refine e_iconst (v := (0 : Int32)) (pc := 20) C dX6_init_20 (by decide) ?_
  refine e_puti (pc := 21) 6 4 C dX6_init_21 (by decide) (by decide) g466 rfl rfl rfl rfl (e_mt uh4 t1) ?_
  obtain ⟨h5, eh5, hf⟩ := nn_e hf
  refine e_hp eh5 ?_
  have uh5 : m_t h5 = m_t h := by rw [eh5]; exact uh4
  refine e_aload_n (pc := 24) C dX6_init_24 0 rfl rfl ?_
  refine e_bipush (v := (10 : Int32)) (pc := 25) C dX6_init_25 (by decide) ?_
  refine e_newi (pc := 27) C dX6_init_27 g220 (by decide) (N := 10) (by decide) (by decide) (Nat.le_of_ble_eq_true rfl) (Nat.le_of_ble_eq_true rfl) ?_
  obtain ⟨x6, ex6, hf⟩ := nn_e hf
  refine e_topr ex6 ?_
  obtain ⟨h7, eh7, hf⟩ := nn_e hf
  refine e_hp eh7 ?_
  obtain ⟨t8, hf⟩ := ck_e hf
  refine e_putrF (pc := 29) (x := some x6) 6 5 C hin dX6_init_29 (by decide) (by decide) g469 rfl rfl rfl rfl rfl t8 ?_
  obtain ⟨h9, eh9, hf⟩ := nn_e hf
  refine e_hp eh9 ?_
  have uh9 : m_t h9 = m_t h7 := by rw [eh9]; exact rfl
  refine e_aload_n (pc := 32) C dX6_init_32 0 rfl rfl ?_
  refine e_bipush (v := (10 : Int32)) (pc := 33) C dX6_init_33 (by decide) ?_
  refine e_newi (pc := 35) C dX6_init_35 g220 (by decide) (N := 10) (by decide) (by decide) (Nat.le_of_ble_eq_true rfl) (Nat.le_of_ble_eq_true rfl) ?_
  obtain ⟨x10, ex10, hf⟩ := nn_e hf
  refine e_topr ex10 ?_
  obtain ⟨h11, eh11, hf⟩ := nn_e hf
  refine e_hp eh11 ?_
  obtain ⟨t12, hf⟩ := ck_e hf
  refine e_putrF (pc := 37) (x := some x10) 6 6 C hin dX6_init_37 (by decide) (by decide) g471 rfl rfl rfl rfl rfl t12 ?_
  obtain ⟨h13, eh13, hf⟩ := nn_e hf
  refine e_hp eh13 ?_
  have uh13 : m_t h13 = m_t h11 := by rw [eh13]; exact rfl
  refine e_aload_n (pc := 40) C dX6_init_40 0 rfl rfl ?_
  refine e_aload_n (pc := 41) C dX6_init_41 1 rfl rfl ?_
  refine e_putr (pc := 42) (x := some v1) 6 0 C dX6_init_42 (by decide) (by decide) g457 rfl rfl rfl rfl (e_mt uh13 t12) ?_
  obtain ⟨h14, eh14, hf⟩ := nn_e hf
  refine e_hp eh14 ?_
  have uh14 : m_t h14 = m_t h11 := by rw [eh14]; exact uh13
  obtain rfl := so_e hf
  exact e_vret (pc := 45) C hr dX6_init_45 (Nat.le_of_ble_eq_true rfl) (Nat.le_of_ble_eq_true rfl)
theorem dX7_init_0 : decode cX7_init 0 = .ok (.aload_n 0, 1) := by decide +kernel
theorem dX7_init_1 : decode cX7_init 1 = .ok (.invokespecial 3, 3) := by decide +kernel
theorem dX7_init_4 : decode cX7_init 4 = .ok (.aload_n 0, 1) := by decide +kernel
theorem dX7_init_5 : decode cX7_init 5 = .ok (.bipush 8, 2) := by decide +kernel
theorem dX7_init_7 : decode cX7_init 7 = .ok (.newarray .int, 2) := by decide +kernel
theorem dX7_init_9 : decode cX7_init 9 = .ok (.putfield 9, 3) := by decide +kernel
theorem dX7_init_12 : decode cX7_init 12 = .ok (.aload_n 0, 1) := by decide +kernel
theorem dX7_init_13 : decode cX7_init 13 = .ok (.iconst 0, 1) := by decide +kernel
theorem dX7_init_14 : decode cX7_init 14 = .ok (.putfield 15, 3) := by decide +kernel
theorem dX7_init_17 : decode cX7_init 17 = .ok (.aload_n 0, 1) := by decide +kernel
theorem dX7_init_18 : decode cX7_init 18 = .ok (.bipush 64, 2) := by decide +kernel
theorem dX7_init_20 : decode cX7_init 20 = .ok (.newarray .int, 2) := by decide +kernel
theorem dX7_init_22 : decode cX7_init 22 = .ok (.putfield 19, 3) := by decide +kernel
theorem dX7_init_25 : decode cX7_init 25 = .ok (.aload_n 0, 1) := by decide +kernel
theorem dX7_init_26 : decode cX7_init 26 = .ok (.sipush 256, 3) := by decide +kernel
theorem dX7_init_29 : decode cX7_init 29 = .ok (.newarray .int, 2) := by decide +kernel
theorem dX7_init_31 : decode cX7_init 31 = .ok (.putfield 22, 3) := by decide +kernel
theorem dX7_init_34 : decode cX7_init 34 = .ok (.aload_n 0, 1) := by decide +kernel
theorem dX7_init_35 : decode cX7_init 35 = .ok (.bipush 8, 2) := by decide +kernel
theorem dX7_init_37 : decode cX7_init 37 = .ok (.newarray .int, 2) := by decide +kernel
theorem dX7_init_39 : decode cX7_init 39 = .ok (.putfield 25, 3) := by decide +kernel
theorem dX7_init_42 : decode cX7_init 42 = .ok (.aload_n 0, 1) := by decide +kernel
theorem dX7_init_43 : decode cX7_init 43 = .ok (.iconst 0, 1) := by decide +kernel
theorem dX7_init_44 : decode cX7_init 44 = .ok (.putfield 28, 3) := by decide +kernel
theorem dX7_init_47 : decode cX7_init 47 = .ok (.aload_n 0, 1) := by decide +kernel
theorem dX7_init_48 : decode cX7_init 48 = .ok (.iconst 0, 1) := by decide +kernel
theorem dX7_init_49 : decode cX7_init 49 = .ok (.putfield 31, 3) := by decide +kernel
theorem dX7_init_52 : decode cX7_init 52 = .ok (.return_, 1) := by decide +kernel
noncomputable def f_X7_init (G : GG) (v0 : Nat) (h : AH) : Option (AH) :=
nn (m_n h) fun x1 =>
nn (m_new h (.inr (.int, 8))) fun h2 =>
ck (m_t h2 v0 = .inl 7) <|
nn (m_sr h2 v0 0 (some x1)) fun h4 =>
nn (m_si h4 v0 1 (0 : Int32)) fun h5 =>
nn (m_n h5) fun x6 =>
nn (m_new h5 (.inr (.int, 64))) fun h7 =>
ck (m_t h7 v0 = .inl 7) <|
nn (m_sr h7 v0 2 (some x6)) fun h9 =>
nn (m_n h9) fun x10 =>
nn (m_new h9 (.inr (.int, 256))) fun h11 =>
ck (m_t h11 v0 = .inl 7) <|
nn (m_sr h11 v0 3 (some x10)) fun h13 =>
nn (m_n h13) fun x14 =>
nn (m_new h13 (.inr (.int, 8))) fun h15 =>
ck (m_t h15 v0 = .inl 7) <|
nn (m_sr h15 v0 4 (some x14)) fun h17 =>
nn (m_si h17 v0 5 (0 : Int32)) fun h18 =>
nn (m_si h18 v0 6 (0 : Int32)) fun h19 =>
some h19
set_option maxHeartbeats 4000000 in
set_option maxRecDepth 100000 in
theorem ct_X7_init {G : GG} {l : Launch} {v0 : Nat} {h : AH} {y : AH} (hf : f_X7_init G v0 h = some y) : Ct G l yX7_init cX7_init 1 none 1 24 4 336 [.ref v0] h (none, y) := by
  refine ct_of (by decide) (Nat.le_of_ble_eq_true rfl) ?_
  intro p e s m args below meth c C hm hr hin
  have C : Cx G cX7_init RX7 p s m args meth c := C
  refine e_lv (lv2 := [(0, .ref v0)]) [0] rfl ?_
  unfold f_X7_init at hf
  refine e_aload_n (pc := 0) C dX7_init_0 0 rfl rfl ?_
  refine e_objInit (pc := 1) C dX7_init_1 g494 g173 g174 (Nat.le_of_ble_eq_true rfl) (Nat.le_of_ble_eq_true rfl) ?_
  refine e_aload_n (pc := 4) C dX7_init_4 0 rfl rfl ?_
  refine e_bipush (v := (8 : Int32)) (pc := 5) C dX7_init_5 (by decide) ?_
  refine e_newi (pc := 7) C dX7_init_7 g220 (by decide) (N := 8) (by decide) (by decide) (Nat.le_of_ble_eq_true rfl) (Nat.le_of_ble_eq_true rfl) ?_
  obtain ⟨x1, ex1, hf⟩ := nn_e hf
  refine e_topr ex1 ?_
  obtain ⟨h2, eh2, hf⟩ := nn_e hf
  refine e_hp eh2 ?_
  obtain ⟨t3, hf⟩ := ck_e hf
  refine e_putrF (pc := 9) (x := some x1) 7 0 C hin dX7_init_9 (by decide) (by decide) g495 rfl rfl rfl rfl rfl t3 ?_
  obtain ⟨h4, eh4, hf⟩ := nn_e hf
  refine e_hp eh4 ?_
  have uh4 : m_t h4 = m_t h2 := by rw [eh4]; exact rfl
  refine e_aload_n (pc := 12) C dX7_init_12 0 rfl rfl ?_
  refine e_iconst (v := (0 : Int32)) (pc := 13) C dX7_init_13 (by decide) ?_
  refine e_puti (pc := 14) 7 1 C dX7_init_14 (by decide) (by decide) g496 rfl rfl rfl rfl (e_mt uh4 t3) ?_
  obtain ⟨h5, eh5, hf⟩ := nn_e hf
  refine e_hp eh5 ?_
  have uh5 : m_t h5 = m_t h2 := by rw [eh5]; exact uh4
  refine e_aload_n (pc := 17) C dX7_init_17 0 rfl rfl ?_
  refine e_bipush (v := (64 : Int32)) (pc := 18) C dX7_init_18 (by decide) ?_
  refine e_newi (pc := 20) C dX7_init_20 g220 (by decide) (N := 64) (by decide) (by decide) (Nat.le_of_ble_eq_true rfl) (Nat.le_of_ble_eq_true rfl) ?_
  obtain ⟨x6, ex6, hf⟩ := nn_e hf
  refine e_topr ex6 ?_
  obtain ⟨h7, eh7, hf⟩ := nn_e hf
  refine e_hp eh7 ?_
  obtain ⟨t8, hf⟩ := ck_e hf
  refine e_putrF (pc := 22) (x := some x6) 7 2 C hin dX7_init_22 (by decide) (by decide) g497 rfl rfl rfl rfl rfl t8 ?_
  obtain ⟨h9, eh9, hf⟩ := nn_e hf
  refine e_hp eh9 ?_
  have uh9 : m_t h9 = m_t h7 := by rw [eh9]; exact rfl
  refine e_aload_n (pc := 25) C dX7_init_25 0 rfl rfl ?_
  refine e_sipush (v := (256 : Int32)) (pc := 26) C dX7_init_26 (by decide) ?_
  refine e_newi (pc := 29) C dX7_init_29 g220 (by decide) (N := 256) (by decide) (by decide) (Nat.le_of_ble_eq_true rfl) (Nat.le_of_ble_eq_true rfl) ?_
  obtain ⟨x10, ex10, hf⟩ := nn_e hf
  refine e_topr ex10 ?_
  obtain ⟨h11, eh11, hf⟩ := nn_e hf
  refine e_hp eh11 ?_
  obtain ⟨t12, hf⟩ := ck_e hf
  refine e_putrF (pc := 31) (x := some x10) 7 3 C hin dX7_init_31 (by decide) (by decide) g498 rfl rfl rfl rfl rfl t12 ?_
  obtain ⟨h13, eh13, hf⟩ := nn_e hf
  refine e_hp eh13 ?_
  have uh13 : m_t h13 = m_t h11 := by rw [eh13]; exact rfl
  refine e_aload_n (pc := 34) C dX7_init_34 0 rfl rfl ?_
  refine e_bipush (v := (8 : Int32)) (pc := 35) C dX7_init_35 (by decide) ?_
  refine e_newi (pc := 37) C dX7_init_37 g220 (by decide) (N := 8) (by decide) (by decide) (Nat.le_of_ble_eq_true rfl) (Nat.le_of_ble_eq_true rfl) ?_
  obtain ⟨x14, ex14, hf⟩ := nn_e hf
  refine e_topr ex14 ?_
  obtain ⟨h15, eh15, hf⟩ := nn_e hf
  refine e_hp eh15 ?_
  obtain ⟨t16, hf⟩ := ck_e hf
  refine e_putrF (pc := 39) (x := some x14) 7 4 C hin dX7_init_39 (by decide) (by decide) g499 rfl rfl rfl rfl rfl t16 ?_
  obtain ⟨h17, eh17, hf⟩ := nn_e hf
  refine e_hp eh17 ?_
  have uh17 : m_t h17 = m_t h15 := by rw [eh17]; exact rfl
  refine e_aload_n (pc := 42) C dX7_init_42 0 rfl rfl ?_
  refine e_iconst (v := (0 : Int32)) (pc := 43) C dX7_init_43 (by decide) ?_
  refine e_puti (pc := 44) 7 5 C dX7_init_44 (by decide) (by decide) g501 rfl rfl rfl rfl (e_mt uh17 t16) ?_
  obtain ⟨h18, eh18, hf⟩ := nn_e hf
  refine e_hp eh18 ?_
  have uh18 : m_t h18 = m_t h15 := by rw [eh18]; exact uh17
  refine e_aload_n (pc := 47) C dX7_init_47 0 rfl rfl ?_
  refine e_iconst (v := (0 : Int32)) (pc := 48) C dX7_init_48 (by decide) ?_
  refine e_puti (pc := 49) 7 6 C dX7_init_49 (by decide) (by decide) g503 rfl rfl rfl rfl (e_mt uh18 t16) ?_
  obtain ⟨h19, eh19, hf⟩ := nn_e hf
  refine e_hp eh19 ?_
  have uh19 : m_t h19 = m_t h15 := by rw [eh19]; exact uh18
  obtain rfl := so_e hf
  exact e_vret (pc := 52) C hr dX7_init_52 (Nat.le_of_ble_eq_true rfl) (Nat.le_of_ble_eq_true rfl)
theorem dX4_init_0 : decode cX4_init 0 = .ok (.aload_n 0, 1) := by decide +kernel
theorem dX4_init_1 : decode cX4_init 1 = .ok (.invokespecial 3, 3) := by decide +kernel
theorem dX4_init_4 : decode cX4_init 4 = .ok (.aload_n 0, 1) := by decide +kernel
theorem dX4_init_5 : decode cX4_init 5 = .ok (.bipush 24, 2) := by decide +kernel
theorem dX4_init_7 : decode cX4_init 7 = .ok (.newarray .int, 2) := by decide +kernel
theorem dX4_init_9 : decode cX4_init 9 = .ok (.putfield 9, 3) := by decide +kernel
theorem dX4_init_12 : decode cX4_init 12 = .ok (.aload_n 0, 1) := by decide +kernel
theorem dX4_init_13 : decode cX4_init 13 = .ok (.bipush 24, 2) := by decide +kernel
theorem dX4_init_15 : decode cX4_init 15 = .ok (.newarray .int, 2) := by decide +kernel
theorem dX4_init_17 : decode cX4_init 17 = .ok (.putfield 15, 3) := by decide +kernel
theorem dX4_init_20 : decode cX4_init 20 = .ok (.aload_n 0, 1) := by decide +kernel
theorem dX4_init_21 : decode cX4_init 21 = .ok (.bipush 24, 2) := by decide +kernel
theorem dX4_init_23 : decode cX4_init 23 = .ok (.newarray .int, 2) := by decide +kernel
theorem dX4_init_25 : decode cX4_init 25 = .ok (.putfield 18, 3) := by decide +kernel
theorem dX4_init_28 : decode cX4_init 28 = .ok (.aload_n 0, 1) := by decide +kernel
theorem dX4_init_29 : decode cX4_init 29 = .ok (.bipush 24, 2) := by decide +kernel
theorem dX4_init_31 : decode cX4_init 31 = .ok (.newarray .int, 2) := by decide +kernel
theorem dX4_init_33 : decode cX4_init 33 = .ok (.putfield 21, 3) := by decide +kernel
theorem dX4_init_36 : decode cX4_init 36 = .ok (.aload_n 0, 1) := by decide +kernel
theorem dX4_init_37 : decode cX4_init 37 = .ok (.sipush 144, 3) := by decide +kernel
theorem dX4_init_40 : decode cX4_init 40 = .ok (.newarray .int, 2) := by decide +kernel
theorem dX4_init_42 : decode cX4_init 42 = .ok (.putfield 24, 3) := by decide +kernel
theorem dX4_init_45 : decode cX4_init 45 = .ok (.aload_n 0, 1) := by decide +kernel
theorem dX4_init_46 : decode cX4_init 46 = .ok (.bipush 6, 2) := by decide +kernel
theorem dX4_init_48 : decode cX4_init 48 = .ok (.newarray .int, 2) := by decide +kernel
theorem dX4_init_50 : decode cX4_init 50 = .ok (.putfield 27, 3) := by decide +kernel
theorem dX4_init_53 : decode cX4_init 53 = .ok (.aload_n 0, 1) := by decide +kernel
theorem dX4_init_54 : decode cX4_init 54 = .ok (.sipush 1464, 3) := by decide +kernel
theorem dX4_init_57 : decode cX4_init 57 = .ok (.newarray .int, 2) := by decide +kernel
theorem dX4_init_59 : decode cX4_init 59 = .ok (.putfield 30, 3) := by decide +kernel
theorem dX4_init_62 : decode cX4_init 62 = .ok (.aload_n 0, 1) := by decide +kernel
theorem dX4_init_63 : decode cX4_init 63 = .ok (.sipush 366, 3) := by decide +kernel
theorem dX4_init_66 : decode cX4_init 66 = .ok (.newarray .int, 2) := by decide +kernel
theorem dX4_init_68 : decode cX4_init 68 = .ok (.putfield 33, 3) := by decide +kernel
theorem dX4_init_71 : decode cX4_init 71 = .ok (.aload_n 0, 1) := by decide +kernel
theorem dX4_init_72 : decode cX4_init 72 = .ok (.sipush 366, 3) := by decide +kernel
theorem dX4_init_75 : decode cX4_init 75 = .ok (.newarray .int, 2) := by decide +kernel
theorem dX4_init_77 : decode cX4_init 77 = .ok (.putfield 36, 3) := by decide +kernel
theorem dX4_init_80 : decode cX4_init 80 = .ok (.return_, 1) := by decide +kernel
noncomputable def f_X4_init (G : GG) (v0 : Nat) (h : AH) : Option (AH) :=
nn (m_n h) fun x1 =>
nn (m_new h (.inr (.int, 24))) fun h2 =>
ck (m_t h2 v0 = .inl 4) <|
nn (m_sr h2 v0 0 (some x1)) fun h4 =>
nn (m_n h4) fun x5 =>
nn (m_new h4 (.inr (.int, 24))) fun h6 =>
ck (m_t h6 v0 = .inl 4) <|
nn (m_sr h6 v0 1 (some x5)) fun h8 =>
nn (m_n h8) fun x9 =>
nn (m_new h8 (.inr (.int, 24))) fun h10 =>
ck (m_t h10 v0 = .inl 4) <|
nn (m_sr h10 v0 2 (some x9)) fun h12 =>
nn (m_n h12) fun x13 =>
nn (m_new h12 (.inr (.int, 24))) fun h14 =>
ck (m_t h14 v0 = .inl 4) <|
nn (m_sr h14 v0 3 (some x13)) fun h16 =>
nn (m_n h16) fun x17 =>
nn (m_new h16 (.inr (.int, 144))) fun h18 =>
ck (m_t h18 v0 = .inl 4) <|
nn (m_sr h18 v0 4 (some x17)) fun h20 =>
nn (m_n h20) fun x21 =>
nn (m_new h20 (.inr (.int, 6))) fun h22 =>
ck (m_t h22 v0 = .inl 4) <|
nn (m_sr h22 v0 5 (some x21)) fun h24 =>
nn (m_n h24) fun x25 =>
nn (m_new h24 (.inr (.int, 1464))) fun h26 =>
ck (m_t h26 v0 = .inl 4) <|
nn (m_sr h26 v0 6 (some x25)) fun h28 =>
nn (m_n h28) fun x29 =>
nn (m_new h28 (.inr (.int, 366))) fun h30 =>
ck (m_t h30 v0 = .inl 4) <|
nn (m_sr h30 v0 7 (some x29)) fun h32 =>
nn (m_n h32) fun x33 =>
nn (m_new h32 (.inr (.int, 366))) fun h34 =>
ck (m_t h34 v0 = .inl 4) <|
nn (m_sr h34 v0 8 (some x33)) fun h36 =>
some h36
set_option maxHeartbeats 4000000 in
set_option maxRecDepth 100000 in
theorem ct_X4_init {G : GG} {l : Launch} {v0 : Nat} {h : AH} {y : AH} (hf : f_X4_init G v0 h = some y) : Ct G l yX4_init cX4_init 1 none 1 24 9 2442 [.ref v0] h (none, y) := by
  refine ct_of (by decide) (Nat.le_of_ble_eq_true rfl) ?_
  intro p e s m args below meth c C hm hr hin
  have C : Cx G cX4_init RX4 p s m args meth c := C
  refine e_lv (lv2 := [(0, .ref v0)]) [0] rfl ?_
  unfold f_X4_init at hf
  refine e_aload_n (pc := 0) C dX4_init_0 0 rfl rfl ?_
  refine e_objInit (pc := 1) C dX4_init_1 g525 g173 g174 (Nat.le_of_ble_eq_true rfl) (Nat.le_of_ble_eq_true rfl) ?_
  refine e_aload_n (pc := 4) C dX4_init_4 0 rfl rfl ?_
  refine e_bipush (v := (24 : Int32)) (pc := 5) C dX4_init_5 (by decide) ?_
  refine e_newi (pc := 7) C dX4_init_7 g220 (by decide) (N := 24) (by decide) (by decide) (Nat.le_of_ble_eq_true rfl) (Nat.le_of_ble_eq_true rfl) ?_
  obtain ⟨x1, ex1, hf⟩ := nn_e hf
  refine e_topr ex1 ?_
  obtain ⟨h2, eh2, hf⟩ := nn_e hf
  refine e_hp eh2 ?_
  obtain ⟨t3, hf⟩ := ck_e hf
  refine e_putrF (pc := 9) (x := some x1) 4 0 C hin dX4_init_9 (by decide) (by decide) g526 rfl rfl rfl rfl rfl t3 ?_
  obtain ⟨h4, eh4, hf⟩ := nn_e hf
  refine e_hp eh4 ?_
  have uh4 : m_t h4 = m_t h2 := by rw [eh4]; exact rfl
  refine e_aload_n (pc := 12) C dX4_init_12 0 rfl rfl ?_
  refine e_bipush (v := (24 : Int32)) (pc := 13) C dX4_init_13 (by decide) ?_
  refine e_newi (pc := 15) C dX4_init_15 g220 (by decide) (N := 24) (by decide) (by decide) (Nat.le_of_ble_eq_true rfl) (Nat.le_of_ble_eq_true rfl) ?_
  obtain ⟨x5, ex5, hf⟩ := nn_e hf
  refine e_topr ex5 ?_
  obtain ⟨h6, eh6, hf⟩ := nn_e hf
  refine e_hp eh6 ?_
  obtain ⟨t7, hf⟩ := ck_e hf
  refine e_putrF (pc := 17) (x := some x5) 4 1 C hin dX4_init_17 (by decide) (by decide) g527 rfl rfl rfl rfl rfl t7 ?_
  obtain ⟨h8, eh8, hf⟩ := nn_e hf
  refine e_hp eh8 ?_
  have uh8 : m_t h8 = m_t h6 := by rw [eh8]; exact rfl
  refine e_aload_n (pc := 20) C dX4_init_20 0 rfl rfl ?_
  refine e_bipush (v := (24 : Int32)) (pc := 21) C dX4_init_21 (by decide) ?_
  refine e_newi (pc := 23) C dX4_init_23 g220 (by decide) (N := 24) (by decide) (by decide) (Nat.le_of_ble_eq_true rfl) (Nat.le_of_ble_eq_true rfl) ?_
  obtain ⟨x9, ex9, hf⟩ := nn_e hf
  refine e_topr ex9 ?_
  obtain ⟨h10, eh10, hf⟩ := nn_e hf
  refine e_hp eh10 ?_
  obtain ⟨t11, hf⟩ := ck_e hf
  refine e_putrF (pc := 25) (x := some x9) 4 2 C hin dX4_init_25 (by decide) (by decide) g528 rfl rfl rfl rfl rfl t11 ?_
  obtain ⟨h12, eh12, hf⟩ := nn_e hf
  refine e_hp eh12 ?_
  have uh12 : m_t h12 = m_t h10 := by rw [eh12]; exact rfl
  refine e_aload_n (pc := 28) C dX4_init_28 0 rfl rfl ?_
  refine e_bipush (v := (24 : Int32)) (pc := 29) C dX4_init_29 (by decide) ?_
  refine e_newi (pc := 31) C dX4_init_31 g220 (by decide) (N := 24) (by decide) (by decide) (Nat.le_of_ble_eq_true rfl) (Nat.le_of_ble_eq_true rfl) ?_
  obtain ⟨x13, ex13, hf⟩ := nn_e hf
  refine e_topr ex13 ?_
  obtain ⟨h14, eh14, hf⟩ := nn_e hf
  refine e_hp eh14 ?_
  obtain ⟨t15, hf⟩ := ck_e hf
  refine e_putrF (pc := 33) (x := some x13) 4 3 C hin dX4_init_33 (by decide) (by decide) g529 rfl rfl rfl rfl rfl t15 ?_
  obtain ⟨h16, eh16, hf⟩ := nn_e hf
  refine e_hp eh16 ?_
  have uh16 : m_t h16 = m_t h14 := by rw [eh16]; exact rfl
  refine e_aload_n (pc := 36) C dX4_init_36 0 rfl rfl ?_
  refine e_sipush (v := (144 : Int32)) (pc := 37) C dX4_init_37 (by decide) ?_
  refine e_newi (pc := 40) C dX4_init_40 g220 (by decide) (N := 144) (by decide) (by decide) (Nat.le_of_ble_eq_true rfl) (Nat.le_of_ble_eq_true rfl) ?_
  obtain ⟨x17, ex17, hf⟩ := nn_e hf
  refine e_topr ex17 ?_
  obtain ⟨h18, eh18, hf⟩ := nn_e hf
  refine e_hp eh18 ?_
  obtain ⟨t19, hf⟩ := ck_e hf
  refine e_putrF (pc := 42) (x := some x17) 4 4 C hin dX4_init_42 (by decide) (by decide) g530 rfl rfl rfl rfl rfl t19 ?_
  obtain ⟨h20, eh20, hf⟩ := nn_e hf
  refine e_hp eh20 ?_
  have uh20 : m_t h20 = m_t h18 := by rw [eh20]; exact rfl
  refine e_aload_n (pc := 45) C dX4_init_45 0 rfl rfl ?_
  refine e_bipush (v := (6 : Int32)) (pc := 46) C dX4_init_46 (by decide) ?_
  refine e_newi (pc := 48) C dX4_init_48 g220 (by decide) (N := 6) (by decide) (by decide) (Nat.le_of_ble_eq_true rfl) (Nat.le_of_ble_eq_true rfl) ?_
  obtain ⟨x21, ex21, hf⟩ := nn_e hf
  refine e_topr ex21 ?_
  obtain ⟨h22, eh22, hf⟩ := nn_e hf
  refine e_hp eh22 ?_
  obtain ⟨t23, hf⟩ := ck_e hf
  refine e_putrF (pc := 50) (x := some x21) 4 5 C hin dX4_init_50 (by decide) (by decide) g531 rfl rfl rfl rfl rfl t23 ?_
  obtain ⟨h24, eh24, hf⟩ := nn_e hf
  refine e_hp eh24 ?_
  have uh24 : m_t h24 = m_t h22 := by rw [eh24]; exact rfl
  refine e_aload_n (pc := 53) C dX4_init_53 0 rfl rfl ?_
  refine e_sipush (v := (1464 : Int32)) (pc := 54) C dX4_init_54 (by decide) ?_
  refine e_newi (pc := 57) C dX4_init_57 g220 (by decide) (N := 1464) (by decide) (by decide) (Nat.le_of_ble_eq_true rfl) (Nat.le_of_ble_eq_true rfl) ?_
  obtain ⟨x25, ex25, hf⟩ := nn_e hf
  refine e_topr ex25 ?_
  obtain ⟨h26, eh26, hf⟩ := nn_e hf
  refine e_hp eh26 ?_
  obtain ⟨t27, hf⟩ := ck_e hf
  refine e_putrF (pc := 59) (x := some x25) 4 6 C hin dX4_init_59 (by decide) (by decide) g532 rfl rfl rfl rfl rfl t27 ?_
  obtain ⟨h28, eh28, hf⟩ := nn_e hf
  refine e_hp eh28 ?_
  have uh28 : m_t h28 = m_t h26 := by rw [eh28]; exact rfl
  refine e_aload_n (pc := 62) C dX4_init_62 0 rfl rfl ?_
  refine e_sipush (v := (366 : Int32)) (pc := 63) C dX4_init_63 (by decide) ?_
  refine e_newi (pc := 66) C dX4_init_66 g220 (by decide) (N := 366) (by decide) (by decide) (Nat.le_of_ble_eq_true rfl) (Nat.le_of_ble_eq_true rfl) ?_
  obtain ⟨x29, ex29, hf⟩ := nn_e hf
  refine e_topr ex29 ?_
  obtain ⟨h30, eh30, hf⟩ := nn_e hf
  refine e_hp eh30 ?_
  obtain ⟨t31, hf⟩ := ck_e hf
  refine e_putrF (pc := 68) (x := some x29) 4 7 C hin dX4_init_68 (by decide) (by decide) g533 rfl rfl rfl rfl rfl t31 ?_
  obtain ⟨h32, eh32, hf⟩ := nn_e hf
  refine e_hp eh32 ?_
  have uh32 : m_t h32 = m_t h30 := by rw [eh32]; exact rfl
  refine e_aload_n (pc := 71) C dX4_init_71 0 rfl rfl ?_
  refine e_sipush (v := (366 : Int32)) (pc := 72) C dX4_init_72 (by decide) ?_
  refine e_newi (pc := 75) C dX4_init_75 g220 (by decide) (N := 366) (by decide) (by decide) (Nat.le_of_ble_eq_true rfl) (Nat.le_of_ble_eq_true rfl) ?_
  obtain ⟨x33, ex33, hf⟩ := nn_e hf
  refine e_topr ex33 ?_
  obtain ⟨h34, eh34, hf⟩ := nn_e hf
  refine e_hp eh34 ?_
  obtain ⟨t35, hf⟩ := ck_e hf
  refine e_putrF (pc := 77) (x := some x33) 4 8 C hin dX4_init_77 (by decide) (by decide) g534 rfl rfl rfl rfl rfl t35 ?_
  obtain ⟨h36, eh36, hf⟩ := nn_e hf
  refine e_hp eh36 ?_
  have uh36 : m_t h36 = m_t h34 := by rw [eh36]; exact rfl
  obtain rfl := so_e hf
  exact e_vret (pc := 80) C hr dX4_init_80 (Nat.le_of_ble_eq_true rfl) (Nat.le_of_ble_eq_true rfl)
theorem dX1_init_0 : decode cX1_init 0 = .ok (.aload_n 0, 1) := by decide +kernel
theorem dX1_init_1 : decode cX1_init 1 = .ok (.invokespecial 3, 3) := by decide +kernel
theorem dX1_init_4 : decode cX1_init 4 = .ok (.aload_n 0, 1) := by decide +kernel
theorem dX1_init_5 : decode cX1_init 5 = .ok (.bipush 61, 2) := by decide +kernel
theorem dX1_init_7 : decode cX1_init 7 = .ok (.newarray .int, 2) := by decide +kernel
theorem dX1_init_9 : decode cX1_init 9 = .ok (.putfield 9, 3) := by decide +kernel
theorem dX1_init_12 : decode cX1_init 12 = .ok (.aload_n 0, 1) := by decide +kernel
theorem dX1_init_13 : decode cX1_init 13 = .ok (.sipush 1464, 3) := by decide +kernel
theorem dX1_init_16 : decode cX1_init 16 = .ok (.newarray .int, 2) := by decide +kernel
theorem dX1_init_18 : decode cX1_init 18 = .ok (.putfield 15, 3) := by decide +kernel
theorem dX1_init_21 : decode cX1_init 21 = .ok (.aload_n 0, 1) := by decide +kernel
theorem dX1_init_22 : decode cX1_init 22 = .ok (.bipush 61, 2) := by decide +kernel
theorem dX1_init_24 : decode cX1_init 24 = .ok (.newarray .int, 2) := by decide +kernel
theorem dX1_init_26 : decode cX1_init 26 = .ok (.putfield 18, 3) := by decide +kernel
theorem dX1_init_29 : decode cX1_init 29 = .ok (.aload_n 0, 1) := by decide +kernel
theorem dX1_init_30 : decode cX1_init 30 = .ok (.iconst 0, 1) := by decide +kernel
theorem dX1_init_31 : decode cX1_init 31 = .ok (.putfield 21, 3) := by decide +kernel
theorem dX1_init_34 : decode cX1_init 34 = .ok (.return_, 1) := by decide +kernel
noncomputable def f_X1_init (G : GG) (v0 : Nat) (h : AH) : Option (AH) :=
nn (m_n h) fun x1 =>
nn (m_new h (.inr (.int, 61))) fun h2 =>
ck (m_t h2 v0 = .inl 1) <|
nn (m_sr h2 v0 0 (some x1)) fun h4 =>
nn (m_n h4) fun x5 =>
nn (m_new h4 (.inr (.int, 1464))) fun h6 =>
ck (m_t h6 v0 = .inl 1) <|
nn (m_sr h6 v0 1 (some x5)) fun h8 =>
nn (m_n h8) fun x9 =>
nn (m_new h8 (.inr (.int, 61))) fun h10 =>
ck (m_t h10 v0 = .inl 1) <|
nn (m_sr h10 v0 2 (some x9)) fun h12 =>
nn (m_si h12 v0 3 (0 : Int32)) fun h13 =>
some h13
set_option maxHeartbeats 4000000 in
set_option maxRecDepth 100000 in
theorem ct_X1_init {G : GG} {l : Launch} {v0 : Nat} {h : AH} {y : AH} (hf : f_X1_init G v0 h = some y) : Ct G l yX1_init cX1_init 1 none 1 24 3 1586 [.ref v0] h (none, y) := by
  refine ct_of (by decide) (Nat.le_of_ble_eq_true rfl) ?_
  intro p e s m args below meth c C hm hr hin
  have C : Cx G cX1_init RX1 p s m args meth c := C
  refine e_lv (lv2 := [(0, .ref v0)]) [0] rfl ?_
  unfold f_X1_init at hf
  refine e_aload_n (pc := 0) C dX1_init_0 0 rfl rfl ?_
  refine e_objInit (pc := 1) C dX1_init_1 g559 g173 g174 (Nat.le_of_ble_eq_true rfl) (Nat.le_of_ble_eq_true rfl) ?_
  refine e_aload_n (pc := 4) C dX1_init_4 0 rfl rfl ?_
  refine e_bipush (v := (61 : Int32)) (pc := 5) C dX1_init_5 (by decide) ?_
  refine e_newi (pc := 7) C dX1_init_7 g220 (by decide) (N := 61) (by decide) (by decide) (Nat.le_of_ble_eq_true rfl) (Nat.le_of_ble_eq_true rfl) ?_
  obtain ⟨x1, ex1, hf⟩ := nn_e hf
  refine e_topr ex1 ?_
  obtain ⟨h2, eh2, hf⟩ := nn_e hf
  refine e_hp eh2 ?_
  obtain ⟨t3, hf⟩ := ck_e hf
  refine e_putrF (pc := 9) (x := some x1) 1 0 C hin dX1_init_9 (by decide) (by decide) g560 rfl rfl rfl rfl rfl t3 ?_
  obtain ⟨h4, eh4, hf⟩ := nn_e hf
  refine e_hp eh4 ?_
  have uh4 : m_t h4 = m_t h2 := by rw [eh4]; exact rfl
  refine e_aload_n (pc := 12) C dX1_init_12 0 rfl rfl ?_
  refine e_sipush (v := (1464 : Int32)) (pc := 13) C dX1_init_13 (by decide) ?_
  refine e_newi (pc := 16) C dX1_init_16 g220 (by decide) (N := 1464) (by decide) (by decide) (Nat.le_of_ble_eq_true rfl) (Nat.le_of_ble_eq_true rfl) ?_
  obtain ⟨x5, ex5, hf⟩ := nn_e hf
  refine e_topr ex5 ?_
  obtain ⟨h6, eh6, hf⟩ := nn_e hf
  refine e_hp eh6 ?_
  obtain ⟨t7, hf⟩ := ck_e hf
  refine e_putrF (pc := 18) (x := some x5) 1 1 C hin dX1_init_18 (by decide) (by decide) g561 rfl rfl rfl rfl rfl t7 ?_
  obtain ⟨h8, eh8, hf⟩ := nn_e hf
  refine e_hp eh8 ?_
  have uh8 : m_t h8 = m_t h6 := by rw [eh8]; exact rfl
  refine e_aload_n (pc := 21) C dX1_init_21 0 rfl rfl ?_
  refine e_bipush (v := (61 : Int32)) (pc := 22) C dX1_init_22 (by decide) ?_
  refine e_newi (pc := 24) C dX1_init_24 g220 (by decide) (N := 61) (by decide) (by decide) (Nat.le_of_ble_eq_true rfl) (Nat.le_of_ble_eq_true rfl) ?_
  obtain ⟨x9, ex9, hf⟩ := nn_e hf
  refine e_topr ex9 ?_
  obtain ⟨h10, eh10, hf⟩ := nn_e hf
  refine e_hp eh10 ?_
  obtain ⟨t11, hf⟩ := ck_e hf
  refine e_putrF (pc := 26) (x := some x9) 1 2 C hin dX1_init_26 (by decide) (by decide) g562 rfl rfl rfl rfl rfl t11 ?_
  obtain ⟨h12, eh12, hf⟩ := nn_e hf
  refine e_hp eh12 ?_
  have uh12 : m_t h12 = m_t h10 := by rw [eh12]; exact rfl
  refine e_aload_n (pc := 29) C dX1_init_29 0 rfl rfl ?_
  refine e_iconst (v := (0 : Int32)) (pc := 30) C dX1_init_30 (by decide) ?_
  refine e_puti (pc := 31) 1 3 C dX1_init_31 (by decide) (by decide) g563 rfl rfl rfl rfl (e_mt uh12 t11) ?_
  obtain ⟨h13, eh13, hf⟩ := nn_e hf
  refine e_hp eh13 ?_
  have uh13 : m_t h13 = m_t h10 := by rw [eh13]; exact uh12
  obtain rfl := so_e hf
  exact e_vret (pc := 34) C hr dX1_init_34 (Nat.le_of_ble_eq_true rfl) (Nat.le_of_ble_eq_true rfl)
theorem dX11_init_0 : decode cX11_init 0 = .ok (.aload_n 0, 1) := by decide +kernel
theorem dX11_init_1 : decode cX11_init 1 = .ok (.invokespecial 1, 3) := by decide +kernel
theorem dX11_init_4 : decode cX11_init 4 = .ok (.aload_n 0, 1) := by decide +kernel
theorem dX11_init_5 : decode cX11_init 5 = .ok (.new 7, 3) := by decide +kernel
theorem dX11_init_8 : decode cX11_init 8 = .ok (.dup, 1) := by decide +kernel
theorem dX11_init_9 : decode cX11_init 9 = .ok (.invokespecial 9, 3) := by decide +kernel
theorem dX11_init_12 : decode cX11_init 12 = .ok (.putfield 10, 3) := by decide +kernel
theorem dX11_init_15 : decode cX11_init 15 = .ok (.aload_n 0, 1) := by decide +kernel
theorem dX11_init_16 : decode cX11_init 16 = .ok (.new 16, 3) := by decide +kernel
theorem dX11_init_19 : decode cX11_init 19 = .ok (.dup, 1) := by decide +kernel
theorem dX11_init_20 : decode cX11_init 20 = .ok (.aload_n 0, 1) := by decide +kernel
theorem dX11_init_21 : decode cX11_init 21 = .ok (.getfield 10, 3) := by decide +kernel
theorem dX11_init_24 : decode cX11_init 24 = .ok (.invokespecial 18, 3) := by decide +kernel
theorem dX11_init_27 : decode cX11_init 27 = .ok (.putfield 21, 3) := by decide +kernel
theorem dX11_init_30 : decode cX11_init 30 = .ok (.aload_n 0, 1) := by decide +kernel
theorem dX11_init_31 : decode cX11_init 31 = .ok (.new 25, 3) := by decide +kernel
theorem dX11_init_34 : decode cX11_init 34 = .ok (.dup, 1) := by decide +kernel
theorem dX11_init_35 : decode cX11_init 35 = .ok (.aload_n 0, 1) := by decide +kernel
theorem dX11_init_36 : decode cX11_init 36 = .ok (.getfield 10, 3) := by decide +kernel
theorem dX11_init_39 : decode cX11_init 39 = .ok (.invokespecial 27, 3) := by decide +kernel
theorem dX11_init_42 : decode cX11_init 42 = .ok (.putfield 28, 3) := by decide +kernel
theorem dX11_init_45 : decode cX11_init 45 = .ok (.aload_n 0, 1) := by decide +kernel
theorem dX11_init_46 : decode cX11_init 46 = .ok (.bipush 6, 2) := by decide +kernel
theorem dX11_init_48 : decode cX11_init 48 = .ok (.anewarray 32, 3) := by decide +kernel
theorem dX11_init_51 : decode cX11_init 51 = .ok (.putfield 34, 3) := by decide +kernel
theorem dX11_init_54 : decode cX11_init 54 = .ok (.aload_n 0, 1) := by decide +kernel
theorem dX11_init_55 : decode cX11_init 55 = .ok (.iconst 0, 1) := by decide +kernel
theorem dX11_init_56 : decode cX11_init 56 = .ok (.putfield 38, 3) := by decide +kernel
theorem dX11_init_59 : decode cX11_init 59 = .ok (.aload_n 0, 1) := by decide +kernel
theorem dX11_init_60 : decode cX11_init 60 = .ok (.new 42, 3) := by decide +kernel
theorem dX11_init_63 : decode cX11_init 63 = .ok (.dup, 1) := by decide +kernel
theorem dX11_init_64 : decode cX11_init 64 = .ok (.new 44, 3) := by decide +kernel
theorem dX11_init_67 : decode cX11_init 67 = .ok (.dup, 1) := by decide +kernel
theorem dX11_init_68 : decode cX11_init 68 = .ok (.new 46, 3) := by decide +kernel
theorem dX11_init_71 : decode cX11_init 71 = .ok (.dup, 1) := by decide +kernel
theorem dX11_init_72 : decode cX11_init 72 = .ok (.invokespecial 48, 3) := by decide +kernel
theorem dX11_init_75 : decode cX11_init 75 = .ok (.invokespecial 49, 3) := by decide +kernel
theorem dX11_init_78 : decode cX11_init 78 = .ok (.invokespecial 52, 3) := by decide +kernel
theorem dX11_init_81 : decode cX11_init 81 = .ok (.putfield 55, 3) := by decide +kernel
theorem dX11_init_84 : decode cX11_init 84 = .ok (.aload_n 0, 1) := by decide +kernel
theorem dX11_init_85 : decode cX11_init 85 = .ok (.iconst 4, 1) := by decide +kernel
theorem dX11_init_86 : decode cX11_init 86 = .ok (.anewarray 42, 3) := by decide +kernel
theorem dX11_init_89 : decode cX11_init 89 = .ok (.putfield 59, 3) := by decide +kernel
theorem dX11_init_92 : decode cX11_init 92 = .ok (.aload_n 0, 1) := by decide +kernel
theorem dX11_init_93 : decode cX11_init 93 = .ok (.new 44, 3) := by decide +kernel
theorem dX11_init_96 : decode cX11_init 96 = .ok (.dup, 1) := by decide +kernel
theorem dX11_init_97 : decode cX11_init 97 = .ok (.aload_n 0, 1) := by decide +kernel
theorem dX11_init_98 : decode cX11_init 98 = .ok (.getfield 55, 3) := by decide +kernel
theorem dX11_init_101 : decode cX11_init 101 = .ok (.getfield 63, 3) := by decide +kernel
theorem dX11_init_104 : decode cX11_init 104 = .ok (.getfield 67, 3) := by decide +kernel
theorem dX11_init_107 : decode cX11_init 107 = .ok (.invokespecial 49, 3) := by decide +kernel
theorem dX11_init_110 : decode cX11_init 110 = .ok (.putfield 71, 3) := by decide +kernel
theorem dX11_init_113 : decode cX11_init 113 = .ok (.aload_n 0, 1) := by decide +kernel
theorem dX11_init_114 : decode cX11_init 114 = .ok (.new 74, 3) := by decide +kernel
theorem dX11_init_117 : decode cX11_init 117 = .ok (.dup, 1) := by decide +kernel
theorem dX11_init_118 : decode cX11_init 118 = .ok (.invokespecial 76, 3) := by decide +kernel
theorem dX11_init_121 : decode cX11_init 121 = .ok (.putfield 77, 3) := by decide +kernel
theorem dX11_init_124 : decode cX11_init 124 = .ok (.aload_n 0, 1) := by decide +kernel
theorem dX11_init_125 : decode cX11_init 125 = .ok (.new 81, 3) := by decide +kernel
theorem dX11_init_128 : decode cX11_init 128 = .ok (.dup, 1) := by decide +kernel
theorem dX11_init_129 : decode cX11_init 129 = .ok (.invokespecial 83, 3) := by decide +kernel
theorem dX11_init_132 : decode cX11_init 132 = .ok (.putfield 84, 3) := by decide +kernel
theorem dX11_init_135 : decode cX11_init 135 = .ok (.aload_n 0, 1) := by decide +kernel
theorem dX11_init_136 : decode cX11_init 136 = .ok (.new 88, 3) := by decide +kernel
theorem dX11_init_139 : decode cX11_init 139 = .ok (.dup, 1) := by decide +kernel
theorem dX11_init_140 : decode cX11_init 140 = .ok (.invokespecial 90, 3) := by decide +kernel
theorem dX11_init_143 : decode cX11_init 143 = .ok (.putfield 91, 3) := by decide +kernel
theorem dX11_init_146 : decode cX11_init 146 = .ok (.aload_n 0, 1) := by decide +kernel
theorem dX11_init_147 : decode cX11_init 147 = .ok (.bipush 81, 2) := by decide +kernel
theorem dX11_init_149 : decode cX11_init 149 = .ok (.newarray .int, 2) := by decide +kernel
theorem dX11_init_151 : decode cX11_init 151 = .ok (.putfield 95, 3) := by decide +kernel
theorem dX11_init_154 : decode cX11_init 154 = .ok (.aload_n 0, 1) := by decide +kernel
theorem dX11_init_155 : decode cX11_init 155 = .ok (.iconst 0, 1) := by decide +kernel
theorem dX11_init_156 : decode cX11_init 156 = .ok (.putfield 99, 3) := by decide +kernel
theorem dX11_init_159 : decode cX11_init 159 = .ok (.return_, 1) := by decide +kernel
noncomputable def f_X11_init (G : GG) (v0 : Nat) (h : AH) : Option (AH) :=
nn (m_n h) fun x1 =>
nn (m_new h (.inl 8)) fun h2 =>
ob (f_X8_init G x1 h2) fun h3 =>
ck (m_t h3 v0 = .inl 11) <|
nn (m_sr h3 v0 0 (some x1)) fun h6 =>
nn (m_n h6) fun x7 =>
nn (m_new h6 (.inl 10)) fun h8 =>
ck (m_t h8 v0 = .inl 11) <|
ob (m_r h8 v0 0) fun b10 =>
ob (f_X10_init G x7 b10 h8) fun h11 =>
ck (m_t h11 v0 = .inl 11) <|
nn (m_sr h11 v0 1 (some x7)) fun h14 =>
nn (m_n h14) fun x15 =>
nn (m_new h14 (.inl 3)) fun h16 =>
ck (m_t h16 v0 = .inl 11) <|
ob (m_r h16 v0 0) fun b18 =>
ob (f_X3_init G x15 b18 h16) fun h19 =>
ck (m_t h19 v0 = .inl 11) <|
nn (m_sr h19 v0 2 (some x15)) fun h22 =>
nn (m_n h22) fun x23 =>
nn (m_new h22 (.inr ((.object RX2), 6))) fun h24 =>
ck (m_t h24 v0 = .inl 11) <|
nn (m_sr h24 v0 3 (some x23)) fun h26 =>
nn (m_si h26 v0 4 (0 : Int32)) fun h27 =>
nn (m_n h27) fun x28 =>
nn (m_new h27 (.inl 6)) fun h29 =>
nn (m_n h29) fun x30 =>
nn (m_new h29 (.inl 0)) fun h31 =>
nn (m_n h31) fun x32 =>
nn (m_new h31 (.inl 9)) fun h33 =>
ob (f_X9_init G x32 h33) fun h34 =>
ob (f_X0_init G x30 x32 h34) fun h36 =>
ob (f_X6_init G x28 x30 h36) fun h38 =>
ck (m_t h38 v0 = .inl 11) <|
nn (m_sr h38 v0 5 (some x28)) fun h41 =>
nn (m_n h41) fun x42 =>
nn (m_new h41 (.inr ((.object RX6), 4))) fun h43 =>
ck (m_t h43 v0 = .inl 11) <|
nn (m_sr h43 v0 6 (some x42)) fun h45 =>
nn (m_n h45) fun x46 =>
nn (m_new h45 (.inl 0)) fun h47 =>
ck (m_t h47 v0 = .inl 11) <|
ob (m_r h47 v0 5) fun b49 =>
ck (m_t h47 b49 = .inl 6) <|
ob (m_r h47 b49 0) fun b51 =>
ck (m_t h47 b51 = .inl 0) <|
ob (m_r h47 b51 0) fun b53 =>
ob (f_X0_init G x46 b53 h47) fun h54 =>
ck (m_t h54 v0 = .inl 11) <|
nn (m_sr h54 v0 7 (some x46)) fun h57 =>
nn (m_n h57) fun x58 =>
nn (m_new h57 (.inl 7)) fun h59 =>
ob (f_X7_init G x58 h59) fun h60 =>
ck (m_t h60 v0 = .inl 11) <|
nn (m_sr h60 v0 8 (some x58)) fun h63 =>
nn (m_n h63) fun x64 =>
nn (m_new h63 (.inl 4)) fun h65 =>
ob (f_X4_init G x64 h65) fun h66 =>
ck (m_t h66 v0 = .inl 11) <|
nn (m_sr h66 v0 9 (some x64)) fun h69 =>
nn (m_n h69) fun x70 =>
nn (m_new h69 (.inl 1)) fun h71 =>
ob (f_X1_init G x70 h71) fun h72 =>
ck (m_t h72 v0 = .inl 11) <|
nn (m_sr h72 v0 10 (some x70)) fun h75 =>
nn (m_n h75) fun x76 =>
nn (m_new h75 (.inr (.int, 81))) fun h77 =>
ck (m_t h77 v0 = .inl 11) <|
nn (m_sr h77 v0 11 (some x76)) fun h79 =>
nn (m_si h79 v0 12 (0 : Int32)) fun h80 =>
some h80
set_option maxHeartbeats 4000000 in
set_option maxRecDepth 100000 in
theorem ct_X11_init {G : GG} {l : Launch} {v0 : Nat} {h : AH} {y : AH} (hf : f_X11_init G v0 h = some y) : Ct G l yX11_init cX11_init 1 none 3 65 58 6708 [.ref v0] h (none, y) := by
  refine ct_of (by decide) (Nat.le_of_ble_eq_true rfl) ?_
  intro p e s m args below meth c C hm hr hin
  have C : Cx G cX11_init RX11 p s m args meth c := C
  refine e_lv (lv2 := [(0, .ref v0)]) [0] rfl ?_
  unfold f_X11_init at hf
  refine e_aload_n (pc := 0) C dX11_init_0 0 rfl rfl ?_
  refine e_objInit (pc := 1) C dX11_init_1 g172 g173 g174 (Nat.le_of_ble_eq_true rfl) (Nat.le_of_ble_eq_true rfl) ?_
  refine e_aload_n (pc := 4) C dX11_init_4 0 rfl rfl ?_
  refine e_new (pc := 5) (ci := 8) C dX11_init_5 (by decide) g175 g176 g147 (Nat.le_of_ble_eq_true rfl) (Nat.le_of_ble_eq_true rfl) ?_
  obtain ⟨x1, ex1, hf⟩ := nn_e hf
  refine e_topr ex1 ?_
  obtain ⟨h2, eh2, hf⟩ := nn_e hf
  refine e_hp eh2 ?_
  have tx1 : m_t h2 x1 = .inl 8 := by rw [eh2, ex1]; simp [m_t, m_new, m_n, va_up]
  refine e_dup (pc := 8) C dX11_init_8 rfl ?_
  obtain ⟨h3, y4, hf⟩ := ob_e hf
  refine e_callINv (pc := 9) (st := [.ref x1, .ref v0]) C (ct_X8_init y4) dX11_init_9 g177 g178 g147 g179 rfl hd_X8_init rfl ⟨Nat.le_of_ble_eq_true rfl, Nat.le_of_ble_eq_true rfl⟩ ⟨Nat.le_of_ble_eq_true rfl, Nat.le_of_ble_eq_true rfl⟩ rfl (Nat.le_of_ble_eq_true rfl) ?_
  obtain ⟨t5, hf⟩ := ck_e hf
  refine e_putrF (pc := 12) (x := some x1) 11 0 C hin dX11_init_12 (by decide) (by decide) g573 rfl rfl rfl rfl rfl t5 ?_
  obtain ⟨h6, eh6, hf⟩ := nn_e hf
  refine e_hp eh6 ?_
  have uh6 : m_t h6 = m_t h3 := by rw [eh6]; exact rfl
  refine e_aload_n (pc := 15) C dX11_init_15 0 rfl rfl ?_
  refine e_new (pc := 16) (ci := 10) C dX11_init_16 (by decide) g221 g222 g148 (Nat.le_of_ble_eq_true rfl) (Nat.le_of_ble_eq_true rfl) ?_
  obtain ⟨x7, ex7, hf⟩ := nn_e hf
  refine e_topr ex7 ?_
  obtain ⟨h8, eh8, hf⟩ := nn_e hf
  refine e_hp eh8 ?_
  have tx7 : m_t h8 x7 = .inl 10 := by rw [eh8, ex7]; simp [m_t, m_new, m_n, va_up]
  refine e_dup (pc := 19) C dX11_init_19 rfl ?_
  refine e_aload_n (pc := 20) C dX11_init_20 0 rfl rfl ?_
  obtain ⟨t9, hf⟩ := ck_e hf
  refine e_getr (pc := 21) 11 0 C dX11_init_21 (by decide) (by decide) g573 rfl t9 ?_
  obtain ⟨b10, eb10, hf⟩ := ob_e hf
  refine e_rf eb10 ?_
  obtain ⟨h11, y12, hf⟩ := ob_e hf
  refine e_callIv (pc := 24) (st := [.ref x7, .ref v0]) C (ct_X10_init y12) dX11_init_24 g223 g224 g148 g225 rfl hd_X10_init rfl ⟨Nat.le_of_ble_eq_true rfl, Nat.le_of_ble_eq_true rfl⟩ ⟨Nat.le_of_ble_eq_true rfl, Nat.le_of_ble_eq_true rfl⟩ rfl (Nat.le_of_ble_eq_true rfl) ?_
  obtain ⟨t13, hf⟩ := ck_e hf
  refine e_putrF (pc := 27) (x := some x7) 11 1 C hin dX11_init_27 (by decide) (by decide) g574 rfl rfl rfl rfl rfl t13 ?_
  obtain ⟨h14, eh14, hf⟩ := nn_e hf
  refine e_hp eh14 ?_
  have uh14 : m_t h14 = m_t h11 := by rw [eh14]; exact rfl
  refine e_aload_n (pc := 30) C dX11_init_30 0 rfl rfl ?_
  refine e_new (pc := 31) (ci := 3) C dX11_init_31 (by decide) g234 g235 g149 (Nat.le_of_ble_eq_true rfl) (Nat.le_of_ble_eq_true rfl) ?_
  obtain ⟨x15, ex15, hf⟩ := nn_e hf
  refine e_topr ex15 ?_
  obtain ⟨h16, eh16, hf⟩ := nn_e hf
  refine e_hp eh16 ?_
  have tx15 : m_t h16 x15 = .inl 3 := by rw [eh16, ex15]; simp [m_t, m_new, m_n, va_up]
  refine e_dup (pc := 34) C dX11_init_34 rfl ?_
  refine e_aload_n (pc := 35) C dX11_init_35 0 rfl rfl ?_
  obtain ⟨t17, hf⟩ := ck_e hf
  refine e_getr (pc := 36) 11 0 C dX11_init_36 (by decide) (by decide) g573 rfl t17 ?_
  obtain ⟨b18, eb18, hf⟩ := ob_e hf
  refine e_rf eb18 ?_
  obtain ⟨h19, y20, hf⟩ := ob_e hf
  refine e_callIv (pc := 39) (st := [.ref x15, .ref v0]) C (ct_X3_init y20) dX11_init_39 g236 g237 g149 g238 rfl hd_X3_init rfl ⟨Nat.le_of_ble_eq_true rfl, Nat.le_of_ble_eq_true rfl⟩ ⟨Nat.le_of_ble_eq_true rfl, Nat.le_of_ble_eq_true rfl⟩ rfl (Nat.le_of_ble_eq_true rfl) ?_
  obtain ⟨t21, hf⟩ := ck_e hf
  refine e_putrF (pc := 42) (x := some x15) 11 2 C hin dX11_init_42 (by decide) (by decide) g575 rfl rfl rfl rfl rfl t21 ?_
  obtain ⟨h22, eh22, hf⟩ := nn_e hf
  refine e_hp eh22 ?_
  have uh22 : m_t h22 = m_t h19 := by rw [eh22]; exact rfl
  refine e_aload_n (pc := 45) C dX11_init_45 0 rfl rfl ?_
  refine e_bipush (v := (6 : Int32)) (pc := 46) C dX11_init_46 (by decide) ?_
  refine e_anew (pc := 48) (t0 := 5) (N := 6) C dX11_init_48 rfl g253 C.2.2.2.2.1.2.2.1.2.1 (by decide) (by decide) (by decide) (Nat.le_of_ble_eq_true rfl) (Nat.le_of_ble_eq_true rfl) ?_
  obtain ⟨x23, ex23, hf⟩ := nn_e hf
  refine e_topr ex23 ?_
  obtain ⟨h24, eh24, hf⟩ := nn_e hf
  refine e_hp eh24 ?_
  obtain ⟨t25, hf⟩ := ck_e hf
  refine e_putrF (pc := 51) (x := some x23) 11 3 C hin dX11_init_51 (by decide) (by decide) g576 rfl rfl rfl rfl rfl t25 ?_
  obtain ⟨h26, eh26, hf⟩ := nn_e hf
  refine e_hp eh26 ?_
  have uh26 : m_t h26 = m_t h24 := by rw [eh26]; exact rfl
  refine e_aload_n (pc := 54) C dX11_init_54 0 rfl rfl ?_
  refine e_iconst (v := (0 : Int32)) (pc := 55) C dX11_init_55 (by decide) ?_
  refine e_puti (pc := 56) 11 4 C dX11_init_56 (by decide) (by decide) g577 rfl rfl rfl rfl (e_mt uh26 t25) ?_
  obtain ⟨h27, eh27, hf⟩ := nn_e hf
  refine e_hp eh27 ?_
  have uh27 : m_t h27 = m_t h24 := by rw [eh27]; exact uh26
  refine e_aload_n (pc := 59) C dX11_init_59 0 rfl rfl ?_
  refine e_new (pc := 60) (ci := 6) C dX11_init_60 (by decide) g255 g256 g150 (Nat.le_of_ble_eq_true rfl) (Nat.le_of_ble_eq_true rfl) ?_
  obtain ⟨x28, ex28, hf⟩ := nn_e hf
  refine e_topr ex28 ?_
  obtain ⟨h29, eh29, hf⟩ := nn_e hf
  refine e_hp eh29 ?_
  have tx28 : m_t h29 x28 = .inl 6 := by rw [eh29, ex28]; simp [m_t, m_new, m_n, va_up]
  refine e_dup (pc := 63) C dX11_init_63 rfl ?_
  refine e_new (pc := 64) (ci := 0) C dX11_init_64 (by decide) g257 g258 g151 (Nat.le_of_ble_eq_true rfl) (Nat.le_of_ble_eq_true rfl) ?_
  obtain ⟨x30, ex30, hf⟩ := nn_e hf
  refine e_topr ex30 ?_
  obtain ⟨h31, eh31, hf⟩ := nn_e hf
  refine e_hp eh31 ?_
  have tx30 : m_t h31 x30 = .inl 0 := by rw [eh31, ex30]; simp [m_t, m_new, m_n, va_up]
  refine e_dup (pc := 67) C dX11_init_67 rfl ?_
  refine e_new (pc := 68) (ci := 9) C dX11_init_68 (by decide) g259 g260 g152 (Nat.le_of_ble_eq_true rfl) (Nat.le_of_ble_eq_true rfl) ?_
  obtain ⟨x32, ex32, hf⟩ := nn_e hf
  refine e_topr ex32 ?_
  obtain ⟨h33, eh33, hf⟩ := nn_e hf
  refine e_hp eh33 ?_
  have tx32 : m_t h33 x32 = .inl 9 := by rw [eh33, ex32]; simp [m_t, m_new, m_n, va_up]
  refine e_dup (pc := 71) C dX11_init_71 rfl ?_
  obtain ⟨h34, y35, hf⟩ := ob_e hf
  refine e_callIv (pc := 72) (st := [.ref x32, .ref x30, .ref x30, .ref x28, .ref x28, .ref v0]) C (ct_X9_init y35) dX11_init_72 g261 g262 g152 g263 rfl hd_X9_init rfl ⟨Nat.le_of_ble_eq_true rfl, Nat.le_of_ble_eq_true rfl⟩ ⟨Nat.le_of_ble_eq_true rfl, Nat.le_of_ble_eq_true rfl⟩ rfl (Nat.le_of_ble_eq_true rfl) ?_
  obtain ⟨h36, y37, hf⟩ := ob_e hf
  refine e_callIv (pc := 75) (st := [.ref x30, .ref x28, .ref x28, .ref v0]) C (ct_X0_init y37) dX11_init_75 g389 g390 g151 g391 rfl hd_X0_init rfl ⟨Nat.le_of_ble_eq_true rfl, Nat.le_of_ble_eq_true rfl⟩ ⟨Nat.le_of_ble_eq_true rfl, Nat.le_of_ble_eq_true rfl⟩ rfl (Nat.le_of_ble_eq_true rfl) ?_
  obtain ⟨h38, y39, hf⟩ := ob_e hf
  refine e_callIv (pc := 78) (st := [.ref x28, .ref v0]) C (ct_X6_init y39) dX11_init_78 g453 g454 g150 g455 rfl hd_X6_init rfl ⟨Nat.le_of_ble_eq_true rfl, Nat.le_of_ble_eq_true rfl⟩ ⟨Nat.le_of_ble_eq_true rfl, Nat.le_of_ble_eq_true rfl⟩ rfl (Nat.le_of_ble_eq_true rfl) ?_
  obtain ⟨t40, hf⟩ := ck_e hf
  refine e_putrF (pc := 81) (x := some x28) 11 5 C hin dX11_init_81 (by decide) (by decide) g578 rfl rfl rfl rfl rfl t40 ?_
  obtain ⟨h41, eh41, hf⟩ := nn_e hf
  refine e_hp eh41 ?_
  have uh41 : m_t h41 = m_t h38 := by rw [eh41]; exact rfl
  refine e_aload_n (pc := 84) C dX11_init_84 0 rfl rfl ?_
  refine e_iconst (v := (4 : Int32)) (pc := 85) C dX11_init_85 (by decide) ?_
  refine e_anew (pc := 86) (t0 := 6) (N := 4) C dX11_init_86 rfl g255 C.2.2.2.2.1.2.2.1.2.2 (by decide) (by decide) (by decide) (Nat.le_of_ble_eq_true rfl) (Nat.le_of_ble_eq_true rfl) ?_
  obtain ⟨x42, ex42, hf⟩ := nn_e hf
  refine e_topr ex42 ?_
  obtain ⟨h43, eh43, hf⟩ := nn_e hf
  refine e_hp eh43 ?_
  obtain ⟨t44, hf⟩ := ck_e hf
  refine e_putrF (pc := 89) (x := some x42) 11 6 C hin dX11_init_89 (by decide) (by decide) g579 rfl rfl rfl rfl rfl t44 ?_
  obtain ⟨h45, eh45, hf⟩ := nn_e hf
  refine e_hp eh45 ?_
  have uh45 : m_t h45 = m_t h43 := by rw [eh45]; exact rfl
  refine e_aload_n (pc := 92) C dX11_init_92 0 rfl rfl ?_
  refine e_new (pc := 93) (ci := 0) C dX11_init_93 (by decide) g257 g258 g151 (Nat.le_of_ble_eq_true rfl) (Nat.le_of_ble_eq_true rfl) ?_
  obtain ⟨x46, ex46, hf⟩ := nn_e hf
  refine e_topr ex46 ?_
  obtain ⟨h47, eh47, hf⟩ := nn_e hf
  refine e_hp eh47 ?_
  have tx46 : m_t h47 x46 = .inl 0 := by rw [eh47, ex46]; simp [m_t, m_new, m_n, va_up]
  refine e_dup (pc := 96) C dX11_init_96 rfl ?_
  refine e_aload_n (pc := 97) C dX11_init_97 0 rfl rfl ?_
  obtain ⟨t48, hf⟩ := ck_e hf
  refine e_getr (pc := 98) 11 5 C dX11_init_98 (by decide) (by decide) g578 rfl t48 ?_
  obtain ⟨b49, eb49, hf⟩ := ob_e hf
  refine e_rf eb49 ?_
  obtain ⟨t50, hf⟩ := ck_e hf
  refine e_getrN (pc := 101) 6 0 C dX11_init_101 (by decide) (by decide) g458 rfl t50 ?_
  obtain ⟨b51, eb51, hf⟩ := ob_e hf
  refine e_rf eb51 ?_
  obtain ⟨t52, hf⟩ := ck_e hf
  refine e_getrN (pc := 104) 0 0 C dX11_init_104 (by decide) (by decide) g394 rfl t52 ?_
  obtain ⟨b53, eb53, hf⟩ := ob_e hf
  refine e_rf eb53 ?_
  obtain ⟨h54, y55, hf⟩ := ob_e hf
  refine e_callIv (pc := 107) (st := [.ref x46, .ref v0]) C (ct_X0_init y55) dX11_init_107 g389 g390 g151 g391 rfl hd_X0_init rfl ⟨Nat.le_of_ble_eq_true rfl, Nat.le_of_ble_eq_true rfl⟩ ⟨Nat.le_of_ble_eq_true rfl, Nat.le_of_ble_eq_true rfl⟩ rfl (Nat.le_of_ble_eq_true rfl) ?_
  obtain ⟨t56, hf⟩ := ck_e hf
  refine e_putrF (pc := 110) (x := some x46) 11 7 C hin dX11_init_110 (by decide) (by decide) g580 rfl rfl rfl rfl rfl t56 ?_
  obtain ⟨h57, eh57, hf⟩ := nn_e hf
  refine e_hp eh57 ?_
  have uh57 : m_t h57 = m_t h54 := by rw [eh57]; exact rfl
  refine e_aload_n (pc := 113) C dX11_init_113 0 rfl rfl ?_
  refine e_new (pc := 114) (ci := 7) C dX11_init_114 (by decide) g489 g490 g154 (Nat.le_of_ble_eq_true rfl) (Nat.le_of_ble_eq_true rfl) ?_
  obtain ⟨x58, ex58, hf⟩ := nn_e hf
  refine e_topr ex58 ?_
  obtain ⟨h59, eh59, hf⟩ := nn_e hf
  refine e_hp eh59 ?_
  have tx58 : m_t h59 x58 = .inl 7 := by rw [eh59, ex58]; simp [m_t, m_new, m_n, va_up]
  refine e_dup (pc := 117) C dX11_init_117 rfl ?_
  obtain ⟨h60, y61, hf⟩ := ob_e hf
  refine e_callINv (pc := 118) (st := [.ref x58, .ref v0]) C (ct_X7_init y61) dX11_init_118 g491 g492 g154 g493 rfl hd_X7_init rfl ⟨Nat.le_of_ble_eq_true rfl, Nat.le_of_ble_eq_true rfl⟩ ⟨Nat.le_of_ble_eq_true rfl, Nat.le_of_ble_eq_true rfl⟩ rfl (Nat.le_of_ble_eq_true rfl) ?_
  obtain ⟨t62, hf⟩ := ck_e hf
  refine e_putrF (pc := 121) (x := some x58) 11 8 C hin dX11_init_121 (by decide) (by decide) g581 rfl rfl rfl rfl rfl t62 ?_
  obtain ⟨h63, eh63, hf⟩ := nn_e hf
  refine e_hp eh63 ?_
  have uh63 : m_t h63 = m_t h60 := by rw [eh63]; exact rfl
  refine e_aload_n (pc := 124) C dX11_init_124 0 rfl rfl ?_
  refine e_new (pc := 125) (ci := 4) C dX11_init_125 (by decide) g520 g521 g155 (Nat.le_of_ble_eq_true rfl) (Nat.le_of_ble_eq_true rfl) ?_
  obtain ⟨x64, ex64, hf⟩ := nn_e hf
  refine e_topr ex64 ?_
  obtain ⟨h65, eh65, hf⟩ := nn_e hf
  refine e_hp eh65 ?_
  have tx64 : m_t h65 x64 = .inl 4 := by rw [eh65, ex64]; simp [m_t, m_new, m_n, va_up]
  refine e_dup (pc := 128) C dX11_init_128 rfl ?_
  obtain ⟨h66, y67, hf⟩ := ob_e hf
  refine e_callINv (pc := 129) (st := [.ref x64, .ref v0]) C (ct_X4_init y67) dX11_init_129 g522 g523 g155 g524 rfl hd_X4_init rfl ⟨Nat.le_of_ble_eq_true rfl, Nat.le_of_ble_eq_true rfl⟩ ⟨Nat.le_of_ble_eq_true rfl, Nat.le_of_ble_eq_true rfl⟩ rfl (Nat.le_of_ble_eq_true rfl) ?_
  obtain ⟨t68, hf⟩ := ck_e hf
  refine e_putrF (pc := 132) (x := some x64) 11 9 C hin dX11_init_132 (by decide) (by decide) g582 rfl rfl rfl rfl rfl t68 ?_
  obtain ⟨h69, eh69, hf⟩ := nn_e hf
  refine e_hp eh69 ?_
  have uh69 : m_t h69 = m_t h66 := by rw [eh69]; exact rfl
  refine e_aload_n (pc := 135) C dX11_init_135 0 rfl rfl ?_
  refine e_new (pc := 136) (ci := 1) C dX11_init_136 (by decide) g554 g555 g156 (Nat.le_of_ble_eq_true rfl) (Nat.le_of_ble_eq_true rfl) ?_
  obtain ⟨x70, ex70, hf⟩ := nn_e hf
  refine e_topr ex70 ?_
  obtain ⟨h71, eh71, hf⟩ := nn_e hf
  refine e_hp eh71 ?_
  have tx70 : m_t h71 x70 = .inl 1 := by rw [eh71, ex70]; simp [m_t, m_new, m_n, va_up]
  refine e_dup (pc := 139) C dX11_init_139 rfl ?_
  obtain ⟨h72, y73, hf⟩ := ob_e hf
  refine e_callINv (pc := 140) (st := [.ref x70, .ref v0]) C (ct_X1_init y73) dX11_init_140 g556 g557 g156 g558 rfl hd_X1_init rfl ⟨Nat.le_of_ble_eq_true rfl, Nat.le_of_ble_eq_true rfl⟩ ⟨Nat.le_of_ble_eq_true rfl, Nat.le_of_ble_eq_true rfl⟩ rfl (Nat.le_of_ble_eq_true rfl) ?_
  obtain ⟨t74, hf⟩ := ck_e hf
  refine e_putrF (pc := 143) (x := some x70) 11 10 C hin dX11_init_143 (by decide) (by decide) g583 rfl rfl rfl rfl rfl t74 ?_
  obtain ⟨h75, eh75, hf⟩ := nn_e hf
  refine e_hp eh75 ?_
  have uh75 : m_t h75 = m_t h72 := by rw [eh75]; exact rfl
  refine e_aload_n (pc := 146) C dX11_init_146 0 rfl rfl ?_
  refine e_bipush (v := (81 : Int32)) (pc := 147) C dX11_init_147 (by decide) ?_
  refine e_newi (pc := 149) C dX11_init_149 g220 (by decide) (N := 81) (by decide) (by decide) (Nat.le_of_ble_eq_true rfl) (Nat.le_of_ble_eq_true rfl) ?_
  obtain ⟨x76, ex76, hf⟩ := nn_e hf
  refine e_topr ex76 ?_
  obtain ⟨h77, eh77, hf⟩ := nn_e hf
  refine e_hp eh77 ?_
  obtain ⟨t78, hf⟩ := ck_e hf
  refine e_putrF (pc := 151) (x := some x76) 11 11 C hin dX11_init_151 (by decide) (by decide) g584 rfl rfl rfl rfl rfl t78 ?_
  obtain ⟨h79, eh79, hf⟩ := nn_e hf
  refine e_hp eh79 ?_
  have uh79 : m_t h79 = m_t h77 := by rw [eh79]; exact rfl
  refine e_aload_n (pc := 154) C dX11_init_154 0 rfl rfl ?_
  refine e_iconst (v := (0 : Int32)) (pc := 155) C dX11_init_155 (by decide) ?_
  refine e_puti (pc := 156) 11 12 C dX11_init_156 (by decide) (by decide) g585 rfl rfl rfl rfl (e_mt uh79 t78) ?_
  obtain ⟨h80, eh80, hf⟩ := nn_e hf
  refine e_hp eh80 ?_
  have uh80 : m_t h80 = m_t h77 := by rw [eh80]; exact uh79
  obtain rfl := so_e hf
  exact e_vret (pc := 159) C hr dX11_init_159 (Nat.le_of_ble_eq_true rfl) (Nat.le_of_ble_eq_true rfl)
theorem dX11_feed_0 : decode cX11_feed 0 = .ok (.aload_n 0, 1) := by decide +kernel
theorem dX11_feed_1 : decode cX11_feed 1 = .ok (.getfield 10, 3) := by decide +kernel
theorem dX11_feed_4 : decode cX11_feed 4 = .ok (.getfield 102, 3) := by decide +kernel
theorem dX11_feed_7 : decode cX11_feed 7 = .ok (.bipush 20, 2) := by decide +kernel
theorem dX11_feed_9 : decode cX11_feed 9 = .ok (.iadd, 1) := by decide +kernel
theorem dX11_feed_10 : decode cX11_feed 10 = .ok (.sipush 400, 3) := by decide +kernel
theorem dX11_feed_13 : decode cX11_feed 13 = .ok (.if_icmp .le 5, 3) := by decide +kernel
theorem dX11_feed_16 : decode cX11_feed 16 = .ok (.iconst (-1), 1) := by decide +kernel
theorem dX11_feed_17 : decode cX11_feed 17 = .ok (.ireturn, 1) := by decide +kernel
theorem dX11_feed_18 : decode cX11_feed 18 = .ok (.aload_n 0, 1) := by decide +kernel
theorem dX11_feed_19 : decode cX11_feed 19 = .ok (.getfield 10, 3) := by decide +kernel
theorem dX11_feed_22 : decode cX11_feed 22 = .ok (.iload_n 1, 1) := by decide +kernel
theorem dX11_feed_23 : decode cX11_feed 23 = .ok (.invokevirtual 105, 3) := by decide +kernel
theorem dX11_feed_26 : decode cX11_feed 26 = .ok (.aload_n 0, 1) := by decide +kernel
theorem dX11_feed_27 : decode cX11_feed 27 = .ok (.getfield 10, 3) := by decide +kernel
theorem dX11_feed_30 : decode cX11_feed 30 = .ok (.iload_n 2, 1) := by decide +kernel
theorem dX11_feed_31 : decode cX11_feed 31 = .ok (.invokevirtual 105, 3) := by decide +kernel
theorem dX11_feed_34 : decode cX11_feed 34 = .ok (.aload_n 0, 1) := by decide +kernel
theorem dX11_feed_35 : decode cX11_feed 35 = .ok (.getfield 10, 3) := by decide +kernel
theorem dX11_feed_38 : decode cX11_feed 38 = .ok (.iload_n 3, 1) := by decide +kernel
theorem dX11_feed_39 : decode cX11_feed 39 = .ok (.invokevirtual 105, 3) := by decide +kernel
theorem dX11_feed_42 : decode cX11_feed 42 = .ok (.aload_n 0, 1) := by decide +kernel
theorem dX11_feed_43 : decode cX11_feed 43 = .ok (.getfield 10, 3) := by decide +kernel
theorem dX11_feed_46 : decode cX11_feed 46 = .ok (.iload 4, 2) := by decide +kernel
theorem dX11_feed_48 : decode cX11_feed 48 = .ok (.invokevirtual 105, 3) := by decide +kernel
theorem dX11_feed_51 : decode cX11_feed 51 = .ok (.aload_n 0, 1) := by decide +kernel
theorem dX11_feed_52 : decode cX11_feed 52 = .ok (.getfield 10, 3) := by decide +kernel
theorem dX11_feed_55 : decode cX11_feed 55 = .ok (.iload 5, 2) := by decide +kernel
theorem dX11_feed_57 : decode cX11_feed 57 = .ok (.invokevirtual 105, 3) := by decide +kernel
theorem dX11_feed_60 : decode cX11_feed 60 = .ok (.aload_n 0, 1) := by decide +kernel
theorem dX11_feed_61 : decode cX11_feed 61 = .ok (.getfield 10, 3) := by decide +kernel
theorem dX11_feed_64 : decode cX11_feed 64 = .ok (.getfield 102, 3) := by decide +kernel
theorem dX11_feed_67 : decode cX11_feed 67 = .ok (.ireturn, 1) := by decide +kernel
noncomputable def f_X11_feed (G : GG) (v0 : Nat) (v1 : Int32) (v2 : Int32) (v3 : Int32) (v4 : Int32) (v5 : Int32) (h : AH) : Option (Int32 × AH) :=
ck (m_t h v0 = .inl 11) <|
ob (m_r h v0 0) fun b2 =>
ck (m_t h b2 = .inl 8) <|
if ((m_i h b2 1) + (20 : Int32)) ≤ (400 : Int32) then (ob (m_r h v0 0) fun b5 =>
ck (m_t h b5 = .inl 8) <|
ob (lrv 0 b5 (s_X8_append G v1) h) fun h7 =>
ck (m_t h7 v0 = .inl 11) <|
ob (m_r h7 v0 0) fun b10 =>
ck (m_t h7 b10 = .inl 8) <|
ob (lrv 0 b10 (s_X8_append G v2) h7) fun h12 =>
ck (m_t h12 v0 = .inl 11) <|
ob (m_r h12 v0 0) fun b15 =>
ck (m_t h12 b15 = .inl 8) <|
ob (lrv 0 b15 (s_X8_append G v3) h12) fun h17 =>
ck (m_t h17 v0 = .inl 11) <|
ob (m_r h17 v0 0) fun b20 =>
ck (m_t h17 b20 = .inl 8) <|
ob (lrv 0 b20 (s_X8_append G v4) h17) fun h22 =>
ck (m_t h22 v0 = .inl 11) <|
ob (m_r h22 v0 0) fun b25 =>
ck (m_t h22 b25 = .inl 8) <|
ob (lrv 0 b25 (s_X8_append G v5) h22) fun h27 =>
ck (m_t h27 v0 = .inl 11) <|
ob (m_r h27 v0 0) fun b30 =>
ck (m_t h27 b30 = .inl 8) <|
some (m_i h27 b30 1, h27)) else
some ((-1 : Int32), h)
set_option maxHeartbeats 4000000 in
set_option maxRecDepth 100000 in
theorem ct_X11_feed {G : GG} {l : Launch} {v0 : Nat} {v1 : Int32} {v2 : Int32} {v3 : Int32} {v4 : Int32} {v5 : Int32} {h : AH} {y : Int32 × AH} (hf : f_X11_feed G v0 v1 v2 v3 v4 v5 h = some y) : Ct G l yX11_feed cX11_feed 6 (some .int) 1 22 0 0 [.ref v0, .int v1, .int v2, .int v3, .int v4, .int v5] h (some (.int y.1), y.2) := by
  refine ct_of (by decide) (Nat.le_of_ble_eq_true rfl) ?_
  intro p e s m args below meth c C hm hr hin
  have C : Cx G cX11_feed RX11 p s m args meth c := C
  refine e_lv (lv2 := [(0, .ref v0), (1, .int v1), (2, .int v2), (3, .int v3), (4, .int v4), (5, .int v5)]) [0, 1, 2, 3, 4, 5] rfl ?_
  unfold f_X11_feed at hf
  refine e_aload_n (pc := 0) C dX11_feed_0 0 rfl rfl ?_
  obtain ⟨t1, hf⟩ := ck_e hf
  refine e_getr (pc := 1) 11 0 C dX11_feed_1 (by decide) (by decide) g573 rfl t1 ?_
  obtain ⟨b2, eb2, hf⟩ := ob_e hf
  refine e_rf eb2 ?_
  obtain ⟨t3, hf⟩ := ck_e hf
  refine e_getiN (pc := 4) 8 1 C dX11_feed_4 (by decide) (by decide) g183 rfl t3 ?_
  refine e_bipush (v := (20 : Int32)) (pc := 7) C dX11_feed_7 (by decide) ?_
  refine e_iadd (pc := 9) C dX11_feed_9 ?_
  refine e_sipush (v := (400 : Int32)) (pc := 10) C dX11_feed_10 (by decide) ?_
  rcases it_e hf with ⟨c4, hf⟩ | ⟨c4, hf⟩
  · refine e_icmp_le (pc := 13) (tgt := 18) C dX11_feed_13 (by decide) (fun _ => ?_) (fun q => absurd c4 q)
    refine e_aload_n (pc := 18) C dX11_feed_18 0 rfl rfl ?_
    refine e_getr (pc := 19) 11 0 C dX11_feed_19 (by decide) (by decide) g573 rfl t1 ?_
    obtain ⟨b5, eb5, hf⟩ := ob_e hf
    refine e_rf eb5 ?_
    refine e_iload_n (pc := 22) C dX11_feed_22 1 rfl rfl ?_
    obtain ⟨t6, hf⟩ := ck_e hf
    obtain ⟨h7, y8, hf⟩ := ob_e hf
    refine e_callVv (pc := 23) (st := []) 8 C (lr_ctv (o := 0) (fun hI => st_X8_append hI) y8) dX11_feed_23 (by decide) t6 g617 g618 g619 g147 g620 hd_X8_append rfl ⟨Nat.le_of_ble_eq_true rfl, Nat.le_of_ble_eq_true rfl⟩ ⟨Nat.le_of_ble_eq_true rfl, Nat.le_of_ble_eq_true rfl⟩ rfl (Nat.le_of_ble_eq_true rfl) ?_
    refine e_aload_n (pc := 26) C dX11_feed_26 0 rfl rfl ?_
    obtain ⟨t9, hf⟩ := ck_e hf
    refine e_getr (pc := 27) 11 0 C dX11_feed_27 (by decide) (by decide) g573 rfl t9 ?_
    obtain ⟨b10, eb10, hf⟩ := ob_e hf
    refine e_rf eb10 ?_
    refine e_iload_n (pc := 30) C dX11_feed_30 2 rfl rfl ?_
    obtain ⟨t11, hf⟩ := ck_e hf
    obtain ⟨h12, y13, hf⟩ := ob_e hf
    refine e_callVv (pc := 31) (st := []) 8 C (lr_ctv (o := 0) (fun hI => st_X8_append hI) y13) dX11_feed_31 (by decide) t11 g617 g618 g619 g147 g620 hd_X8_append rfl ⟨Nat.le_of_ble_eq_true rfl, Nat.le_of_ble_eq_true rfl⟩ ⟨Nat.le_of_ble_eq_true rfl, Nat.le_of_ble_eq_true rfl⟩ rfl (Nat.le_of_ble_eq_true rfl) ?_
    refine e_aload_n (pc := 34) C dX11_feed_34 0 rfl rfl ?_
    obtain ⟨t14, hf⟩ := ck_e hf
    refine e_getr (pc := 35) 11 0 C dX11_feed_35 (by decide) (by decide) g573 rfl t14 ?_
    obtain ⟨b15, eb15, hf⟩ := ob_e hf
    refine e_rf eb15 ?_
    refine e_iload_n (pc := 38) C dX11_feed_38 3 rfl rfl ?_
    obtain ⟨t16, hf⟩ := ck_e hf
    obtain ⟨h17, y18, hf⟩ := ob_e hf
    refine e_callVv (pc := 39) (st := []) 8 C (lr_ctv (o := 0) (fun hI => st_X8_append hI) y18) dX11_feed_39 (by decide) t16 g617 g618 g619 g147 g620 hd_X8_append rfl ⟨Nat.le_of_ble_eq_true rfl, Nat.le_of_ble_eq_true rfl⟩ ⟨Nat.le_of_ble_eq_true rfl, Nat.le_of_ble_eq_true rfl⟩ rfl (Nat.le_of_ble_eq_true rfl) ?_
    refine e_aload_n (pc := 42) C dX11_feed_42 0 rfl rfl ?_
    obtain ⟨t19, hf⟩ := ck_e hf
    refine e_getr (pc := 43) 11 0 C dX11_feed_43 (by decide) (by decide) g573 rfl t19 ?_
    obtain ⟨b20, eb20, hf⟩ := ob_e hf
    refine e_rf eb20 ?_
    refine e_iload (pc := 46) C dX11_feed_46 4 rfl ?_
    obtain ⟨t21, hf⟩ := ck_e hf
    obtain ⟨h22, y23, hf⟩ := ob_e hf
    refine e_callVv (pc := 48) (st := []) 8 C (lr_ctv (o := 0) (fun hI => st_X8_append hI) y23) dX11_feed_48 (by decide) t21 g617 g618 g619 g147 g620 hd_X8_append rfl ⟨Nat.le_of_ble_eq_true rfl, Nat.le_of_ble_eq_true rfl⟩ ⟨Nat.le_of_ble_eq_true rfl, Nat.le_of_ble_eq_true rfl⟩ rfl (Nat.le_of_ble_eq_true rfl) ?_
    refine e_aload_n (pc := 51) C dX11_feed_51 0 rfl rfl ?_
    obtain ⟨t24, hf⟩ := ck_e hf
    refine e_getr (pc := 52) 11 0 C dX11_feed_52 (by decide) (by decide) g573 rfl t24 ?_
    obtain ⟨b25, eb25, hf⟩ := ob_e hf
    refine e_rf eb25 ?_
    refine e_iload (pc := 55) C dX11_feed_55 5 rfl ?_
    obtain ⟨t26, hf⟩ := ck_e hf
    obtain ⟨h27, y28, hf⟩ := ob_e hf
    refine e_callVv (pc := 57) (st := []) 8 C (lr_ctv (o := 0) (fun hI => st_X8_append hI) y28) dX11_feed_57 (by decide) t26 g617 g618 g619 g147 g620 hd_X8_append rfl ⟨Nat.le_of_ble_eq_true rfl, Nat.le_of_ble_eq_true rfl⟩ ⟨Nat.le_of_ble_eq_true rfl, Nat.le_of_ble_eq_true rfl⟩ rfl (Nat.le_of_ble_eq_true rfl) ?_
    refine e_aload_n (pc := 60) C dX11_feed_60 0 rfl rfl ?_
    obtain ⟨t29, hf⟩ := ck_e hf
    refine e_getr (pc := 61) 11 0 C dX11_feed_61 (by decide) (by decide) g573 rfl t29 ?_
    obtain ⟨b30, eb30, hf⟩ := ob_e hf
    refine e_rf eb30 ?_
    obtain ⟨t31, hf⟩ := ck_e hf
    refine e_getiN (pc := 64) 8 1 C dX11_feed_64 (by decide) (by decide) g183 rfl t31 ?_
    obtain rfl := so_e hf
    exact e_iret (pc := 67) C hr dX11_feed_67 (Nat.le_of_ble_eq_true rfl) (Nat.le_of_ble_eq_true rfl)
  · refine e_icmp_le (pc := 13) (tgt := 18) C dX11_feed_13 (by decide) (fun q => absurd q c4) (fun _ => ?_)
    refine e_iconst (v := (-1 : Int32)) (pc := 16) C dX11_feed_16 (by decide) ?_
    obtain rfl := so_e hf
    exact e_iret (pc := 17) C hr dX11_feed_17 (Nat.le_of_ble_eq_true rfl) (Nat.le_of_ble_eq_true rfl)
