/-! The reference over its rows, by a program of ours: X12_onePerson X12_readsPerson X12_readsCold X12_trainPart X12_isFull X12_trainClause X12_copies X12_goesOn X12_starts X12_readsAll X12_maySit X12_sitterOf X12_sitsDown X12_getIn X12_train X12_ruleClause X12_rule X12_force X12_truth X12_both -/
theorem dX12_onePerson_0 : decode cX12_onePerson 0 = .ok (.aload_n 0, 1) := by decide +kernel
theorem dX12_onePerson_1 : decode cX12_onePerson 1 = .ok (.iconst 0, 1) := by decide +kernel
theorem dX12_onePerson_2 : decode cX12_onePerson 2 = .ok (.aload_n 0, 1) := by decide +kernel
theorem dX12_onePerson_3 : decode cX12_onePerson 3 = .ok (.getfield 67, 3) := by decide +kernel
theorem dX12_onePerson_6 : decode cX12_onePerson 6 = .ok (.bipush 6, 2) := by decide +kernel
theorem dX12_onePerson_8 : decode cX12_onePerson 8 = .ok (.iaload, 1) := by decide +kernel
theorem dX12_onePerson_9 : decode cX12_onePerson 9 = .ok (.iconst 1, 1) := by decide +kernel
theorem dX12_onePerson_10 : decode cX12_onePerson 10 = .ok (.isub, 1) := by decide +kernel
theorem dX12_onePerson_11 : decode cX12_onePerson 11 = .ok (.invokevirtual 351, 3) := by decide +kernel
theorem dX12_onePerson_14 : decode cX12_onePerson 14 = .ok (.ireturn, 1) := by decide +kernel
def p_X12_onePerson (G : GG) (w : MS) : Option (Int32 × MS) :=
ck (ixn 10 (6 : Int32) = true) <|
cw (p_X12_amount G (0 : Int32) ((w.1 20 (6 : Int32).toNatClampNeg) - (1 : Int32)) w) fun r4 w2 =>
some (r4, w2)
set_option maxHeartbeats 4000000 in
set_option maxRecDepth 100000 in
theorem pt_X12_onePerson {G : GG} {l : Launch} {M : Nat} {h : AH} (hI : MI h M) {w : MS} {y : Int32 × MS} (hf : p_X12_onePerson G w = some y) : Ct G l yX12_onePerson cX12_onePerson 1 (some .int) 4 92 0 0 [.ref M] (mh h M w) (some (.int y.1), mh h M y.2) := by
  refine ct_of (by decide) (Nat.le_of_ble_eq_true rfl) ?_
  intro p e s m args below meth c C hm hr hin
  have C : Cx G cX12_onePerson RX12 p s m args meth c := C
  refine e_lv (lv2 := [(0, .ref M)]) [0] rfl ?_
  unfold p_X12_onePerson at hf
  refine e_aload_n (pc := 0) C dX12_onePerson_0 0 rfl rfl ?_
  refine e_iconst (v := (0 : Int32)) (pc := 1) C dX12_onePerson_1 (by decide) ?_
  refine e_aload_n (pc := 2) C dX12_onePerson_2 0 rfl rfl ?_
  refine q_getr (pc := 3) 20 hI C dX12_onePerson_3 (by decide) g1421 rfl rfl ?_
  refine e_bipush (v := (6 : Int32)) (pc := 6) C dX12_onePerson_6 (by decide) ?_
  obtain ⟨q1, hf⟩ := ck_e hf
  refine q_iald (pc := 8) (k := 20) hI C dX12_onePerson_8 rfl (ixn_e q1) ?_
  refine e_iconst (v := (1 : Int32)) (pc := 9) C dX12_onePerson_9 (by decide) ?_
  refine e_isub (pc := 10) C dX12_onePerson_10 ?_
  obtain ⟨r4, w2, y3, hf⟩ := cw_e hf
  refine e_callVi (pc := 11) (st := []) 12 C (pt_X12_amount hI y3) dX12_onePerson_11 (by decide) hI.1 g1722 g1724 g65 g157 g1725 hd_X12_amount rfl ⟨Nat.le_of_ble_eq_true rfl, Nat.le_of_ble_eq_true rfl⟩ ⟨Nat.le_of_ble_eq_true rfl, Nat.le_of_ble_eq_true rfl⟩ rfl (Nat.le_of_ble_eq_true rfl) ?_
  obtain rfl := so_e hf
  exact e_iret (pc := 14) C hr dX12_onePerson_14 (Nat.le_of_ble_eq_true rfl) (Nat.le_of_ble_eq_true rfl)
theorem dX12_readsPerson_0 : decode cX12_readsPerson 0 = .ok (.aload_n 0, 1) := by decide +kernel
theorem dX12_readsPerson_1 : decode cX12_readsPerson 1 = .ok (.getfield 67, 3) := by decide +kernel
theorem dX12_readsPerson_4 : decode cX12_readsPerson 4 = .ok (.bipush 6, 2) := by decide +kernel
theorem dX12_readsPerson_6 : decode cX12_readsPerson 6 = .ok (.iaload, 1) := by decide +kernel
theorem dX12_readsPerson_7 : decode cX12_readsPerson 7 = .ok (.istore_n 1, 1) := by decide +kernel
theorem dX12_readsPerson_8 : decode cX12_readsPerson 8 = .ok (.aload_n 0, 1) := by decide +kernel
theorem dX12_readsPerson_9 : decode cX12_readsPerson 9 = .ok (.getfield 70, 3) := by decide +kernel
theorem dX12_readsPerson_12 : decode cX12_readsPerson 12 = .ok (.iload_n 1, 1) := by decide +kernel
theorem dX12_readsPerson_13 : decode cX12_readsPerson 13 = .ok (.aload_n 0, 1) := by decide +kernel
theorem dX12_readsPerson_14 : decode cX12_readsPerson 14 = .ok (.iconst 0, 1) := by decide +kernel
theorem dX12_readsPerson_15 : decode cX12_readsPerson 15 = .ok (.bipush 7, 2) := by decide +kernel
theorem dX12_readsPerson_17 : decode cX12_readsPerson 17 = .ok (.invokevirtual 351, 3) := by decide +kernel
theorem dX12_readsPerson_20 : decode cX12_readsPerson 20 = .ok (.iastore, 1) := by decide +kernel
theorem dX12_readsPerson_21 : decode cX12_readsPerson 21 = .ok (.aload_n 0, 1) := by decide +kernel
theorem dX12_readsPerson_22 : decode cX12_readsPerson 22 = .ok (.getfield 73, 3) := by decide +kernel
theorem dX12_readsPerson_25 : decode cX12_readsPerson 25 = .ok (.iload_n 1, 1) := by decide +kernel
theorem dX12_readsPerson_26 : decode cX12_readsPerson 26 = .ok (.aload_n 0, 1) := by decide +kernel
theorem dX12_readsPerson_27 : decode cX12_readsPerson 27 = .ok (.iconst 0, 1) := by decide +kernel
theorem dX12_readsPerson_28 : decode cX12_readsPerson 28 = .ok (.sipush 239, 3) := by decide +kernel
theorem dX12_readsPerson_31 : decode cX12_readsPerson 31 = .ok (.invokevirtual 351, 3) := by decide +kernel
theorem dX12_readsPerson_34 : decode cX12_readsPerson 34 = .ok (.iastore, 1) := by decide +kernel
theorem dX12_readsPerson_35 : decode cX12_readsPerson 35 = .ok (.aload_n 0, 1) := by decide +kernel
theorem dX12_readsPerson_36 : decode cX12_readsPerson 36 = .ok (.getfield 76, 3) := by decide +kernel
theorem dX12_readsPerson_39 : decode cX12_readsPerson 39 = .ok (.iload_n 1, 1) := by decide +kernel
theorem dX12_readsPerson_40 : decode cX12_readsPerson 40 = .ok (.aload_n 0, 1) := by decide +kernel
theorem dX12_readsPerson_41 : decode cX12_readsPerson 41 = .ok (.aload_n 0, 1) := by decide +kernel
theorem dX12_readsPerson_42 : decode cX12_readsPerson 42 = .ok (.getfield 73, 3) := by decide +kernel
theorem dX12_readsPerson_45 : decode cX12_readsPerson 45 = .ok (.iload_n 1, 1) := by decide +kernel
theorem dX12_readsPerson_46 : decode cX12_readsPerson 46 = .ok (.iaload, 1) := by decide +kernel
theorem dX12_readsPerson_47 : decode cX12_readsPerson 47 = .ok (.iconst 1, 1) := by decide +kernel
theorem dX12_readsPerson_48 : decode cX12_readsPerson 48 = .ok (.iadd, 1) := by decide +kernel
theorem dX12_readsPerson_49 : decode cX12_readsPerson 49 = .ok (.sipush 240, 3) := by decide +kernel
theorem dX12_readsPerson_52 : decode cX12_readsPerson 52 = .ok (.invokevirtual 351, 3) := by decide +kernel
theorem dX12_readsPerson_55 : decode cX12_readsPerson 55 = .ok (.iastore, 1) := by decide +kernel
theorem dX12_readsPerson_56 : decode cX12_readsPerson 56 = .ok (.aload_n 0, 1) := by decide +kernel
theorem dX12_readsPerson_57 : decode cX12_readsPerson 57 = .ok (.getfield 79, 3) := by decide +kernel
theorem dX12_readsPerson_60 : decode cX12_readsPerson 60 = .ok (.iload_n 1, 1) := by decide +kernel
theorem dX12_readsPerson_61 : decode cX12_readsPerson 61 = .ok (.aload_n 0, 1) := by decide +kernel
theorem dX12_readsPerson_62 : decode cX12_readsPerson 62 = .ok (.iconst 0, 1) := by decide +kernel
theorem dX12_readsPerson_63 : decode cX12_readsPerson 63 = .ok (.bipush 60, 2) := by decide +kernel
theorem dX12_readsPerson_65 : decode cX12_readsPerson 65 = .ok (.invokevirtual 351, 3) := by decide +kernel
theorem dX12_readsPerson_68 : decode cX12_readsPerson 68 = .ok (.iastore, 1) := by decide +kernel
theorem dX12_readsPerson_69 : decode cX12_readsPerson 69 = .ok (.aload_n 0, 1) := by decide +kernel
theorem dX12_readsPerson_70 : decode cX12_readsPerson 70 = .ok (.getfield 82, 3) := by decide +kernel
theorem dX12_readsPerson_73 : decode cX12_readsPerson 73 = .ok (.iload_n 1, 1) := by decide +kernel
theorem dX12_readsPerson_74 : decode cX12_readsPerson 74 = .ok (.aload_n 0, 1) := by decide +kernel
theorem dX12_readsPerson_75 : decode cX12_readsPerson 75 = .ok (.iconst 0, 1) := by decide +kernel
theorem dX12_readsPerson_76 : decode cX12_readsPerson 76 = .ok (.bipush 20, 2) := by decide +kernel
theorem dX12_readsPerson_78 : decode cX12_readsPerson 78 = .ok (.invokevirtual 351, 3) := by decide +kernel
theorem dX12_readsPerson_81 : decode cX12_readsPerson 81 = .ok (.iastore, 1) := by decide +kernel
theorem dX12_readsPerson_82 : decode cX12_readsPerson 82 = .ok (.aload_n 0, 1) := by decide +kernel
theorem dX12_readsPerson_83 : decode cX12_readsPerson 83 = .ok (.getfield 85, 3) := by decide +kernel
theorem dX12_readsPerson_86 : decode cX12_readsPerson 86 = .ok (.iload_n 1, 1) := by decide +kernel
theorem dX12_readsPerson_87 : decode cX12_readsPerson 87 = .ok (.iconst 0, 1) := by decide +kernel
theorem dX12_readsPerson_88 : decode cX12_readsPerson 88 = .ok (.iastore, 1) := by decide +kernel
theorem dX12_readsPerson_89 : decode cX12_readsPerson 89 = .ok (.aload_n 0, 1) := by decide +kernel
theorem dX12_readsPerson_90 : decode cX12_readsPerson 90 = .ok (.getfield 67, 3) := by decide +kernel
theorem dX12_readsPerson_93 : decode cX12_readsPerson 93 = .ok (.bipush 6, 2) := by decide +kernel
theorem dX12_readsPerson_95 : decode cX12_readsPerson 95 = .ok (.dup2, 1) := by decide +kernel
theorem dX12_readsPerson_96 : decode cX12_readsPerson 96 = .ok (.iaload, 1) := by decide +kernel
theorem dX12_readsPerson_97 : decode cX12_readsPerson 97 = .ok (.iconst 1, 1) := by decide +kernel
theorem dX12_readsPerson_98 : decode cX12_readsPerson 98 = .ok (.iadd, 1) := by decide +kernel
theorem dX12_readsPerson_99 : decode cX12_readsPerson 99 = .ok (.iastore, 1) := by decide +kernel
theorem dX12_readsPerson_100 : decode cX12_readsPerson 100 = .ok (.return_, 1) := by decide +kernel
def p_X12_readsPerson (G : GG) (w : MS) : Option (MS) :=
ck (ixn 10 (6 : Int32) = true) <|
nn (w.1 20 (6 : Int32).toNatClampNeg) fun x2 =>
cw (p_X12_amount G (0 : Int32) (7 : Int32) w) fun r5 w3 =>
ck (ixn 8 x2 = true) <|
nn (w_si w3 21 x2.toNatClampNeg r5) fun w7 =>
cw (p_X12_amount G (0 : Int32) (239 : Int32) w7) fun r10 w8 =>
ck (ixn 8 x2 = true) <|
nn (w_si w8 22 x2.toNatClampNeg r10) fun w12 =>
ck (ixn 8 x2 = true) <|
cw (p_X12_amount G ((w12.1 22 x2.toNatClampNeg) + (1 : Int32)) (240 : Int32) w12) fun r16 w14 =>
ck (ixn 8 x2 = true) <|
nn (w_si w14 23 x2.toNatClampNeg r16) fun w18 =>
cw (p_X12_amount G (0 : Int32) (60 : Int32) w18) fun r21 w19 =>
ck (ixn 8 x2 = true) <|
nn (w_si w19 24 x2.toNatClampNeg r21) fun w23 =>
cw (p_X12_amount G (0 : Int32) (20 : Int32) w23) fun r26 w24 =>
ck (ixn 8 x2 = true) <|
nn (w_si w24 25 x2.toNatClampNeg r26) fun w28 =>
ck (ixn 8 x2 = true) <|
nn (w_si w28 26 x2.toNatClampNeg (0 : Int32)) fun w30 =>
ck (ixn 10 (6 : Int32) = true) <|
ck (ixn 10 (6 : Int32) = true) <|
nn (w_si w30 20 (6 : Int32).toNatClampNeg ((w30.1 20 (6 : Int32).toNatClampNeg) + (1 : Int32))) fun w33 =>
some w33
set_option maxHeartbeats 4000000 in
set_option maxRecDepth 100000 in
theorem pt_X12_readsPerson {G : GG} {l : Launch} {M : Nat} {h : AH} (hI : MI h M) {w : MS} {y : MS} (hf : p_X12_readsPerson G w = some y) : Ct G l yX12_readsPerson cX12_readsPerson 2 none 4 92 0 0 [.ref M] (mh h M w) (none, mh h M y) := by
  refine ct_of (by decide) (Nat.le_of_ble_eq_true rfl) ?_
  intro p e s m args below meth c C hm hr hin
  have C : Cx G cX12_readsPerson RX12 p s m args meth c := C
  refine e_lv (lv2 := [(0, .ref M)]) [0] rfl ?_
  unfold p_X12_readsPerson at hf
  refine e_aload_n (pc := 0) C dX12_readsPerson_0 0 rfl rfl ?_
  refine q_getr (pc := 1) 20 hI C dX12_readsPerson_1 (by decide) g1421 rfl rfl ?_
  refine e_bipush (v := (6 : Int32)) (pc := 4) C dX12_readsPerson_4 (by decide) ?_
  obtain ⟨q1, hf⟩ := ck_e hf
  refine q_iald (pc := 6) (k := 20) hI C dX12_readsPerson_6 rfl (ixn_e q1) ?_
  obtain ⟨x2, ex2, hf⟩ := nn_e hf
  refine e_topi ex2 ?_
  refine e_istore_n (pc := 7) (lv2 := [(1, .int x2), (0, .ref M)]) C hm dX12_readsPerson_7 rfl (by decide) rfl ?_
  refine e_aload_n (pc := 8) C dX12_readsPerson_8 1 rfl rfl ?_
  refine q_getr (pc := 9) 21 hI C dX12_readsPerson_9 (by decide) g1422 rfl rfl ?_
  refine e_iload_n (pc := 12) C dX12_readsPerson_12 0 rfl rfl ?_
  refine e_aload_n (pc := 13) C dX12_readsPerson_13 1 rfl rfl ?_
  refine e_iconst (v := (0 : Int32)) (pc := 14) C dX12_readsPerson_14 (by decide) ?_
  refine e_bipush (v := (7 : Int32)) (pc := 15) C dX12_readsPerson_15 (by decide) ?_
  obtain ⟨r5, w3, y4, hf⟩ := cw_e hf
  refine e_callVi (pc := 17) (st := [.int x2, .ref (M + mofs 21)]) 12 C (pt_X12_amount hI y4) dX12_readsPerson_17 (by decide) hI.1 g1722 g1724 g65 g157 g1725 hd_X12_amount rfl ⟨Nat.le_of_ble_eq_true rfl, Nat.le_of_ble_eq_true rfl⟩ ⟨Nat.le_of_ble_eq_true rfl, Nat.le_of_ble_eq_true rfl⟩ rfl (Nat.le_of_ble_eq_true rfl) ?_
  obtain ⟨q6, hf⟩ := ck_e hf
  refine q_iast (pc := 20) (k := 21) hI C dX12_readsPerson_20 rfl (ixn_e q6) ?_
  obtain ⟨w7, ew7, hf⟩ := nn_e hf
  refine q_hp ew7 ?_
  refine e_aload_n (pc := 21) C dX12_readsPerson_21 1 rfl rfl ?_
  refine q_getr (pc := 22) 22 hI C dX12_readsPerson_22 (by decide) g1423 rfl rfl ?_
  refine e_iload_n (pc := 25) C dX12_readsPerson_25 0 rfl rfl ?_
  refine e_aload_n (pc := 26) C dX12_readsPerson_26 1 rfl rfl ?_
  refine e_iconst (v := (0 : Int32)) (pc := 27) C dX12_readsPerson_27 (by decide) ?_
  refine e_sipush (v := (239 : Int32)) (pc := 28) C dX12_readsPerson_28 (by decide) ?_
  obtain ⟨r10, w8, y9, hf⟩ := cw_e hf
  refine e_callVi (pc := 31) (st := [.int x2, .ref (M + mofs 22)]) 12 C (pt_X12_amount hI y9) dX12_readsPerson_31 (by decide) hI.1 g1722 g1724 g65 g157 g1725 hd_X12_amount rfl ⟨Nat.le_of_ble_eq_true rfl, Nat.le_of_ble_eq_true rfl⟩ ⟨Nat.le_of_ble_eq_true rfl, Nat.le_of_ble_eq_true rfl⟩ rfl (Nat.le_of_ble_eq_true rfl) ?_
  obtain ⟨q11, hf⟩ := ck_e hf
  refine q_iast (pc := 34) (k := 22) hI C dX12_readsPerson_34 rfl (ixn_e q11) ?_
  obtain ⟨w12, ew12, hf⟩ := nn_e hf
  refine q_hp ew12 ?_
  refine e_aload_n (pc := 35) C dX12_readsPerson_35 1 rfl rfl ?_
  refine q_getr (pc := 36) 23 hI C dX12_readsPerson_36 (by decide) g1424 rfl rfl ?_
  refine e_iload_n (pc := 39) C dX12_readsPerson_39 0 rfl rfl ?_
  refine e_aload_n (pc := 40) C dX12_readsPerson_40 1 rfl rfl ?_
  refine e_aload_n (pc := 41) C dX12_readsPerson_41 1 rfl rfl ?_
  refine q_getr (pc := 42) 22 hI C dX12_readsPerson_42 (by decide) g1423 rfl rfl ?_
  refine e_iload_n (pc := 45) C dX12_readsPerson_45 0 rfl rfl ?_
  obtain ⟨q13, hf⟩ := ck_e hf
  refine q_iald (pc := 46) (k := 22) hI C dX12_readsPerson_46 rfl (ixn_e q13) ?_
  refine e_iconst (v := (1 : Int32)) (pc := 47) C dX12_readsPerson_47 (by decide) ?_
  refine e_iadd (pc := 48) C dX12_readsPerson_48 ?_
  refine e_sipush (v := (240 : Int32)) (pc := 49) C dX12_readsPerson_49 (by decide) ?_
  obtain ⟨r16, w14, y15, hf⟩ := cw_e hf
  refine e_callVi (pc := 52) (st := [.int x2, .ref (M + mofs 23)]) 12 C (pt_X12_amount hI y15) dX12_readsPerson_52 (by decide) hI.1 g1722 g1724 g65 g157 g1725 hd_X12_amount rfl ⟨Nat.le_of_ble_eq_true rfl, Nat.le_of_ble_eq_true rfl⟩ ⟨Nat.le_of_ble_eq_true rfl, Nat.le_of_ble_eq_true rfl⟩ rfl (Nat.le_of_ble_eq_true rfl) ?_
  obtain ⟨q17, hf⟩ := ck_e hf
  refine q_iast (pc := 55) (k := 23) hI C dX12_readsPerson_55 rfl (ixn_e q17) ?_
  obtain ⟨w18, ew18, hf⟩ := nn_e hf
  refine q_hp ew18 ?_
  refine e_aload_n (pc := 56) C dX12_readsPerson_56 1 rfl rfl ?_
  refine q_getr (pc := 57) 24 hI C dX12_readsPerson_57 (by decide) g1425 rfl rfl ?_
  refine e_iload_n (pc := 60) C dX12_readsPerson_60 0 rfl rfl ?_
  refine e_aload_n (pc := 61) C dX12_readsPerson_61 1 rfl rfl ?_
  refine e_iconst (v := (0 : Int32)) (pc := 62) C dX12_readsPerson_62 (by decide) ?_
  refine e_bipush (v := (60 : Int32)) (pc := 63) C dX12_readsPerson_63 (by decide) ?_
  obtain ⟨r21, w19, y20, hf⟩ := cw_e hf
  refine e_callVi (pc := 65) (st := [.int x2, .ref (M + mofs 24)]) 12 C (pt_X12_amount hI y20) dX12_readsPerson_65 (by decide) hI.1 g1722 g1724 g65 g157 g1725 hd_X12_amount rfl ⟨Nat.le_of_ble_eq_true rfl, Nat.le_of_ble_eq_true rfl⟩ ⟨Nat.le_of_ble_eq_true rfl, Nat.le_of_ble_eq_true rfl⟩ rfl (Nat.le_of_ble_eq_true rfl) ?_
  obtain ⟨q22, hf⟩ := ck_e hf
  refine q_iast (pc := 68) (k := 24) hI C dX12_readsPerson_68 rfl (ixn_e q22) ?_
  obtain ⟨w23, ew23, hf⟩ := nn_e hf
  refine q_hp ew23 ?_
  refine e_aload_n (pc := 69) C dX12_readsPerson_69 1 rfl rfl ?_
  refine q_getr (pc := 70) 25 hI C dX12_readsPerson_70 (by decide) g1426 rfl rfl ?_
  refine e_iload_n (pc := 73) C dX12_readsPerson_73 0 rfl rfl ?_
  refine e_aload_n (pc := 74) C dX12_readsPerson_74 1 rfl rfl ?_
  refine e_iconst (v := (0 : Int32)) (pc := 75) C dX12_readsPerson_75 (by decide) ?_
  refine e_bipush (v := (20 : Int32)) (pc := 76) C dX12_readsPerson_76 (by decide) ?_
  obtain ⟨r26, w24, y25, hf⟩ := cw_e hf
  refine e_callVi (pc := 78) (st := [.int x2, .ref (M + mofs 25)]) 12 C (pt_X12_amount hI y25) dX12_readsPerson_78 (by decide) hI.1 g1722 g1724 g65 g157 g1725 hd_X12_amount rfl ⟨Nat.le_of_ble_eq_true rfl, Nat.le_of_ble_eq_true rfl⟩ ⟨Nat.le_of_ble_eq_true rfl, Nat.le_of_ble_eq_true rfl⟩ rfl (Nat.le_of_ble_eq_true rfl) ?_
  obtain ⟨q27, hf⟩ := ck_e hf
  refine q_iast (pc := 81) (k := 25) hI C dX12_readsPerson_81 rfl (ixn_e q27) ?_
  obtain ⟨w28, ew28, hf⟩ := nn_e hf
  refine q_hp ew28 ?_
  refine e_aload_n (pc := 82) C dX12_readsPerson_82 1 rfl rfl ?_
  refine q_getr (pc := 83) 26 hI C dX12_readsPerson_83 (by decide) g1427 rfl rfl ?_
  refine e_iload_n (pc := 86) C dX12_readsPerson_86 0 rfl rfl ?_
  refine e_iconst (v := (0 : Int32)) (pc := 87) C dX12_readsPerson_87 (by decide) ?_
  obtain ⟨q29, hf⟩ := ck_e hf
  refine q_iast (pc := 88) (k := 26) hI C dX12_readsPerson_88 rfl (ixn_e q29) ?_
  obtain ⟨w30, ew30, hf⟩ := nn_e hf
  refine q_hp ew30 ?_
  refine e_aload_n (pc := 89) C dX12_readsPerson_89 1 rfl rfl ?_
  refine q_getr (pc := 90) 20 hI C dX12_readsPerson_90 (by decide) g1421 rfl rfl ?_
  refine e_bipush (v := (6 : Int32)) (pc := 93) C dX12_readsPerson_93 (by decide) ?_
  refine e_dup2 (pc := 95) C dX12_readsPerson_95 rfl rfl ?_
  obtain ⟨q31, hf⟩ := ck_e hf
  refine q_iald (pc := 96) (k := 20) hI C dX12_readsPerson_96 rfl (ixn_e q31) ?_
  refine e_iconst (v := (1 : Int32)) (pc := 97) C dX12_readsPerson_97 (by decide) ?_
  refine e_iadd (pc := 98) C dX12_readsPerson_98 ?_
  obtain ⟨q32, hf⟩ := ck_e hf
  refine q_iast (pc := 99) (k := 20) hI C dX12_readsPerson_99 rfl (ixn_e q32) ?_
  obtain ⟨w33, ew33, hf⟩ := nn_e hf
  refine q_hp ew33 ?_
  obtain rfl := so_e hf
  exact e_vret (pc := 100) C hr dX12_readsPerson_100 (Nat.le_of_ble_eq_true rfl) (Nat.le_of_ble_eq_true rfl)
theorem dX12_readsCold_0 : decode cX12_readsCold 0 = .ok (.aload_n 0, 1) := by decide +kernel
theorem dX12_readsCold_1 : decode cX12_readsCold 1 = .ok (.getfield 67, 3) := by decide +kernel
theorem dX12_readsCold_4 : decode cX12_readsCold 4 = .ok (.bipush 9, 2) := by decide +kernel
theorem dX12_readsCold_6 : decode cX12_readsCold 6 = .ok (.iaload, 1) := by decide +kernel
theorem dX12_readsCold_7 : decode cX12_readsCold 7 = .ok (.istore_n 1, 1) := by decide +kernel
theorem dX12_readsCold_8 : decode cX12_readsCold 8 = .ok (.aload_n 0, 1) := by decide +kernel
theorem dX12_readsCold_9 : decode cX12_readsCold 9 = .ok (.getfield 94, 3) := by decide +kernel
theorem dX12_readsCold_12 : decode cX12_readsCold 12 = .ok (.iload_n 1, 1) := by decide +kernel
theorem dX12_readsCold_13 : decode cX12_readsCold 13 = .ok (.aload_n 0, 1) := by decide +kernel
theorem dX12_readsCold_14 : decode cX12_readsCold 14 = .ok (.iconst 0, 1) := by decide +kernel
theorem dX12_readsCold_15 : decode cX12_readsCold 15 = .ok (.sipush 239, 3) := by decide +kernel
theorem dX12_readsCold_18 : decode cX12_readsCold 18 = .ok (.invokevirtual 351, 3) := by decide +kernel
theorem dX12_readsCold_21 : decode cX12_readsCold 21 = .ok (.iastore, 1) := by decide +kernel
theorem dX12_readsCold_22 : decode cX12_readsCold 22 = .ok (.aload_n 0, 1) := by decide +kernel
theorem dX12_readsCold_23 : decode cX12_readsCold 23 = .ok (.getfield 97, 3) := by decide +kernel
theorem dX12_readsCold_26 : decode cX12_readsCold 26 = .ok (.iload_n 1, 1) := by decide +kernel
theorem dX12_readsCold_27 : decode cX12_readsCold 27 = .ok (.aload_n 0, 1) := by decide +kernel
theorem dX12_readsCold_28 : decode cX12_readsCold 28 = .ok (.aload_n 0, 1) := by decide +kernel
theorem dX12_readsCold_29 : decode cX12_readsCold 29 = .ok (.getfield 94, 3) := by decide +kernel
theorem dX12_readsCold_32 : decode cX12_readsCold 32 = .ok (.iload_n 1, 1) := by decide +kernel
theorem dX12_readsCold_33 : decode cX12_readsCold 33 = .ok (.iaload, 1) := by decide +kernel
theorem dX12_readsCold_34 : decode cX12_readsCold 34 = .ok (.sipush 239, 3) := by decide +kernel
theorem dX12_readsCold_37 : decode cX12_readsCold 37 = .ok (.invokevirtual 351, 3) := by decide +kernel
theorem dX12_readsCold_40 : decode cX12_readsCold 40 = .ok (.iastore, 1) := by decide +kernel
theorem dX12_readsCold_41 : decode cX12_readsCold 41 = .ok (.aload_n 0, 1) := by decide +kernel
theorem dX12_readsCold_42 : decode cX12_readsCold 42 = .ok (.getfield 100, 3) := by decide +kernel
theorem dX12_readsCold_45 : decode cX12_readsCold 45 = .ok (.iload_n 1, 1) := by decide +kernel
theorem dX12_readsCold_46 : decode cX12_readsCold 46 = .ok (.aload_n 0, 1) := by decide +kernel
theorem dX12_readsCold_47 : decode cX12_readsCold 47 = .ok (.iconst 1, 1) := by decide +kernel
theorem dX12_readsCold_48 : decode cX12_readsCold 48 = .ok (.iconst 4, 1) := by decide +kernel
theorem dX12_readsCold_49 : decode cX12_readsCold 49 = .ok (.invokevirtual 351, 3) := by decide +kernel
theorem dX12_readsCold_52 : decode cX12_readsCold 52 = .ok (.iastore, 1) := by decide +kernel
theorem dX12_readsCold_53 : decode cX12_readsCold 53 = .ok (.aload_n 0, 1) := by decide +kernel
theorem dX12_readsCold_54 : decode cX12_readsCold 54 = .ok (.getfield 67, 3) := by decide +kernel
theorem dX12_readsCold_57 : decode cX12_readsCold 57 = .ok (.bipush 9, 2) := by decide +kernel
theorem dX12_readsCold_59 : decode cX12_readsCold 59 = .ok (.dup2, 1) := by decide +kernel
theorem dX12_readsCold_60 : decode cX12_readsCold 60 = .ok (.iaload, 1) := by decide +kernel
theorem dX12_readsCold_61 : decode cX12_readsCold 61 = .ok (.iconst 1, 1) := by decide +kernel
theorem dX12_readsCold_62 : decode cX12_readsCold 62 = .ok (.iadd, 1) := by decide +kernel
theorem dX12_readsCold_63 : decode cX12_readsCold 63 = .ok (.iastore, 1) := by decide +kernel
theorem dX12_readsCold_64 : decode cX12_readsCold 64 = .ok (.return_, 1) := by decide +kernel
def p_X12_readsCold (G : GG) (w : MS) : Option (MS) :=
ck (ixn 10 (9 : Int32) = true) <|
nn (w.1 20 (9 : Int32).toNatClampNeg) fun x2 =>
cw (p_X12_amount G (0 : Int32) (239 : Int32) w) fun r5 w3 =>
ck (ixn 5 x2 = true) <|
nn (w_si w3 29 x2.toNatClampNeg r5) fun w7 =>
ck (ixn 5 x2 = true) <|
cw (p_X12_amount G (w7.1 29 x2.toNatClampNeg) (239 : Int32) w7) fun r11 w9 =>
ck (ixn 5 x2 = true) <|
nn (w_si w9 30 x2.toNatClampNeg r11) fun w13 =>
cw (p_X12_amount G (1 : Int32) (4 : Int32) w13) fun r16 w14 =>
ck (ixn 5 x2 = true) <|
nn (w_si w14 31 x2.toNatClampNeg r16) fun w18 =>
ck (ixn 10 (9 : Int32) = true) <|
ck (ixn 10 (9 : Int32) = true) <|
nn (w_si w18 20 (9 : Int32).toNatClampNeg ((w18.1 20 (9 : Int32).toNatClampNeg) + (1 : Int32))) fun w21 =>
some w21
set_option maxHeartbeats 4000000 in
set_option maxRecDepth 100000 in
theorem pt_X12_readsCold {G : GG} {l : Launch} {M : Nat} {h : AH} (hI : MI h M) {w : MS} {y : MS} (hf : p_X12_readsCold G w = some y) : Ct G l yX12_readsCold cX12_readsCold 2 none 4 92 0 0 [.ref M] (mh h M w) (none, mh h M y) := by
  refine ct_of (by decide) (Nat.le_of_ble_eq_true rfl) ?_
  intro p e s m args below meth c C hm hr hin
  have C : Cx G cX12_readsCold RX12 p s m args meth c := C
  refine e_lv (lv2 := [(0, .ref M)]) [0] rfl ?_
  unfold p_X12_readsCold at hf
  refine e_aload_n (pc := 0) C dX12_readsCold_0 0 rfl rfl ?_
  refine q_getr (pc := 1) 20 hI C dX12_readsCold_1 (by decide) g1421 rfl rfl ?_
  refine e_bipush (v := (9 : Int32)) (pc := 4) C dX12_readsCold_4 (by decide) ?_
  obtain ⟨q1, hf⟩ := ck_e hf
  refine q_iald (pc := 6) (k := 20) hI C dX12_readsCold_6 rfl (ixn_e q1) ?_
  obtain ⟨x2, ex2, hf⟩ := nn_e hf
  refine e_topi ex2 ?_
  refine e_istore_n (pc := 7) (lv2 := [(1, .int x2), (0, .ref M)]) C hm dX12_readsCold_7 rfl (by decide) rfl ?_
  refine e_aload_n (pc := 8) C dX12_readsCold_8 1 rfl rfl ?_
  refine q_getr (pc := 9) 29 hI C dX12_readsCold_9 (by decide) g1430 rfl rfl ?_
  refine e_iload_n (pc := 12) C dX12_readsCold_12 0 rfl rfl ?_
  refine e_aload_n (pc := 13) C dX12_readsCold_13 1 rfl rfl ?_
  refine e_iconst (v := (0 : Int32)) (pc := 14) C dX12_readsCold_14 (by decide) ?_
  refine e_sipush (v := (239 : Int32)) (pc := 15) C dX12_readsCold_15 (by decide) ?_
  obtain ⟨r5, w3, y4, hf⟩ := cw_e hf
  refine e_callVi (pc := 18) (st := [.int x2, .ref (M + mofs 29)]) 12 C (pt_X12_amount hI y4) dX12_readsCold_18 (by decide) hI.1 g1722 g1724 g65 g157 g1725 hd_X12_amount rfl ⟨Nat.le_of_ble_eq_true rfl, Nat.le_of_ble_eq_true rfl⟩ ⟨Nat.le_of_ble_eq_true rfl, Nat.le_of_ble_eq_true rfl⟩ rfl (Nat.le_of_ble_eq_true rfl) ?_
  obtain ⟨q6, hf⟩ := ck_e hf
  refine q_iast (pc := 21) (k := 29) hI C dX12_readsCold_21 rfl (ixn_e q6) ?_
  obtain ⟨w7, ew7, hf⟩ := nn_e hf
  refine q_hp ew7 ?_
  refine e_aload_n (pc := 22) C dX12_readsCold_22 1 rfl rfl ?_
  refine q_getr (pc := 23) 30 hI C dX12_readsCold_23 (by decide) g1431 rfl rfl ?_
  refine e_iload_n (pc := 26) C dX12_readsCold_26 0 rfl rfl ?_
  refine e_aload_n (pc := 27) C dX12_readsCold_27 1 rfl rfl ?_
  refine e_aload_n (pc := 28) C dX12_readsCold_28 1 rfl rfl ?_
  refine q_getr (pc := 29) 29 hI C dX12_readsCold_29 (by decide) g1430 rfl rfl ?_
  refine e_iload_n (pc := 32) C dX12_readsCold_32 0 rfl rfl ?_
  obtain ⟨q8, hf⟩ := ck_e hf
  refine q_iald (pc := 33) (k := 29) hI C dX12_readsCold_33 rfl (ixn_e q8) ?_
  refine e_sipush (v := (239 : Int32)) (pc := 34) C dX12_readsCold_34 (by decide) ?_
  obtain ⟨r11, w9, y10, hf⟩ := cw_e hf
  refine e_callVi (pc := 37) (st := [.int x2, .ref (M + mofs 30)]) 12 C (pt_X12_amount hI y10) dX12_readsCold_37 (by decide) hI.1 g1722 g1724 g65 g157 g1725 hd_X12_amount rfl ⟨Nat.le_of_ble_eq_true rfl, Nat.le_of_ble_eq_true rfl⟩ ⟨Nat.le_of_ble_eq_true rfl, Nat.le_of_ble_eq_true rfl⟩ rfl (Nat.le_of_ble_eq_true rfl) ?_
  obtain ⟨q12, hf⟩ := ck_e hf
  refine q_iast (pc := 40) (k := 30) hI C dX12_readsCold_40 rfl (ixn_e q12) ?_
  obtain ⟨w13, ew13, hf⟩ := nn_e hf
  refine q_hp ew13 ?_
  refine e_aload_n (pc := 41) C dX12_readsCold_41 1 rfl rfl ?_
  refine q_getr (pc := 42) 31 hI C dX12_readsCold_42 (by decide) g1432 rfl rfl ?_
  refine e_iload_n (pc := 45) C dX12_readsCold_45 0 rfl rfl ?_
  refine e_aload_n (pc := 46) C dX12_readsCold_46 1 rfl rfl ?_
  refine e_iconst (v := (1 : Int32)) (pc := 47) C dX12_readsCold_47 (by decide) ?_
  refine e_iconst (v := (4 : Int32)) (pc := 48) C dX12_readsCold_48 (by decide) ?_
  obtain ⟨r16, w14, y15, hf⟩ := cw_e hf
  refine e_callVi (pc := 49) (st := [.int x2, .ref (M + mofs 31)]) 12 C (pt_X12_amount hI y15) dX12_readsCold_49 (by decide) hI.1 g1722 g1724 g65 g157 g1725 hd_X12_amount rfl ⟨Nat.le_of_ble_eq_true rfl, Nat.le_of_ble_eq_true rfl⟩ ⟨Nat.le_of_ble_eq_true rfl, Nat.le_of_ble_eq_true rfl⟩ rfl (Nat.le_of_ble_eq_true rfl) ?_
  obtain ⟨q17, hf⟩ := ck_e hf
  refine q_iast (pc := 52) (k := 31) hI C dX12_readsCold_52 rfl (ixn_e q17) ?_
  obtain ⟨w18, ew18, hf⟩ := nn_e hf
  refine q_hp ew18 ?_
  refine e_aload_n (pc := 53) C dX12_readsCold_53 1 rfl rfl ?_
  refine q_getr (pc := 54) 20 hI C dX12_readsCold_54 (by decide) g1421 rfl rfl ?_
  refine e_bipush (v := (9 : Int32)) (pc := 57) C dX12_readsCold_57 (by decide) ?_
  refine e_dup2 (pc := 59) C dX12_readsCold_59 rfl rfl ?_
  obtain ⟨q19, hf⟩ := ck_e hf
  refine q_iald (pc := 60) (k := 20) hI C dX12_readsCold_60 rfl (ixn_e q19) ?_
  refine e_iconst (v := (1 : Int32)) (pc := 61) C dX12_readsCold_61 (by decide) ?_
  refine e_iadd (pc := 62) C dX12_readsCold_62 ?_
  obtain ⟨q20, hf⟩ := ck_e hf
  refine q_iast (pc := 63) (k := 20) hI C dX12_readsCold_63 rfl (ixn_e q20) ?_
  obtain ⟨w21, ew21, hf⟩ := nn_e hf
  refine q_hp ew21 ?_
  obtain rfl := so_e hf
  exact e_vret (pc := 64) C hr dX12_readsCold_64 (Nat.le_of_ble_eq_true rfl) (Nat.le_of_ble_eq_true rfl)
theorem dX12_trainPart_0 : decode cX12_trainPart 0 = .ok (.iload_n 1, 1) := by decide +kernel
theorem dX12_trainPart_1 : decode cX12_trainPart 1 = .ok (.tableswitch 236 0 5 #[39, 87, 109, 116, 148, 181], 39) := by decide +kernel
theorem dX12_trainPart_40 : decode cX12_trainPart 40 = .ok (.aload_n 0, 1) := by decide +kernel
theorem dX12_trainPart_41 : decode cX12_trainPart 41 = .ok (.getfield 67, 3) := by decide +kernel
theorem dX12_trainPart_44 : decode cX12_trainPart 44 = .ok (.iconst 1, 1) := by decide +kernel
theorem dX12_trainPart_45 : decode cX12_trainPart 45 = .ok (.aload_n 0, 1) := by decide +kernel
theorem dX12_trainPart_46 : decode cX12_trainPart 46 = .ok (.iconst 0, 1) := by decide +kernel
theorem dX12_trainPart_47 : decode cX12_trainPart 47 = .ok (.bipush 60, 2) := by decide +kernel
theorem dX12_trainPart_49 : decode cX12_trainPart 49 = .ok (.invokevirtual 351, 3) := by decide +kernel
theorem dX12_trainPart_52 : decode cX12_trainPart 52 = .ok (.iastore, 1) := by decide +kernel
theorem dX12_trainPart_53 : decode cX12_trainPart 53 = .ok (.aload_n 0, 1) := by decide +kernel
theorem dX12_trainPart_54 : decode cX12_trainPart 54 = .ok (.getfield 67, 3) := by decide +kernel
theorem dX12_trainPart_57 : decode cX12_trainPart 57 = .ok (.iconst 2, 1) := by decide +kernel
theorem dX12_trainPart_58 : decode cX12_trainPart 58 = .ok (.aload_n 0, 1) := by decide +kernel
theorem dX12_trainPart_59 : decode cX12_trainPart 59 = .ok (.iconst 0, 1) := by decide +kernel
theorem dX12_trainPart_60 : decode cX12_trainPart 60 = .ok (.iconst 3, 1) := by decide +kernel
theorem dX12_trainPart_61 : decode cX12_trainPart 61 = .ok (.invokevirtual 351, 3) := by decide +kernel
theorem dX12_trainPart_64 : decode cX12_trainPart 64 = .ok (.iastore, 1) := by decide +kernel
theorem dX12_trainPart_65 : decode cX12_trainPart 65 = .ok (.aload_n 0, 1) := by decide +kernel
theorem dX12_trainPart_66 : decode cX12_trainPart 66 = .ok (.getfield 67, 3) := by decide +kernel
theorem dX12_trainPart_69 : decode cX12_trainPart 69 = .ok (.iconst 3, 1) := by decide +kernel
theorem dX12_trainPart_70 : decode cX12_trainPart 70 = .ok (.aload_n 0, 1) := by decide +kernel
theorem dX12_trainPart_71 : decode cX12_trainPart 71 = .ok (.iconst 0, 1) := by decide +kernel
theorem dX12_trainPart_72 : decode cX12_trainPart 72 = .ok (.bipush 6, 2) := by decide +kernel
theorem dX12_trainPart_74 : decode cX12_trainPart 74 = .ok (.invokevirtual 351, 3) := by decide +kernel
theorem dX12_trainPart_77 : decode cX12_trainPart 77 = .ok (.iastore, 1) := by decide +kernel
theorem dX12_trainPart_78 : decode cX12_trainPart 78 = .ok (.aload_n 0, 1) := by decide +kernel
theorem dX12_trainPart_79 : decode cX12_trainPart 79 = .ok (.getfield 67, 3) := by decide +kernel
theorem dX12_trainPart_82 : decode cX12_trainPart 82 = .ok (.iconst 0, 1) := by decide +kernel
theorem dX12_trainPart_83 : decode cX12_trainPart 83 = .ok (.iconst 1, 1) := by decide +kernel
theorem dX12_trainPart_84 : decode cX12_trainPart 84 = .ok (.iastore, 1) := by decide +kernel
theorem dX12_trainPart_85 : decode cX12_trainPart 85 = .ok (.goto 156, 3) := by decide +kernel
theorem dX12_trainPart_88 : decode cX12_trainPart 88 = .ok (.aload_n 0, 1) := by decide +kernel
theorem dX12_trainPart_89 : decode cX12_trainPart 89 = .ok (.getfield 67, 3) := by decide +kernel
theorem dX12_trainPart_92 : decode cX12_trainPart 92 = .ok (.iconst 4, 1) := by decide +kernel
theorem dX12_trainPart_93 : decode cX12_trainPart 93 = .ok (.aload_n 0, 1) := by decide +kernel
theorem dX12_trainPart_94 : decode cX12_trainPart 94 = .ok (.iconst 0, 1) := by decide +kernel
theorem dX12_trainPart_95 : decode cX12_trainPart 95 = .ok (.iconst 5, 1) := by decide +kernel
theorem dX12_trainPart_96 : decode cX12_trainPart 96 = .ok (.invokevirtual 351, 3) := by decide +kernel
theorem dX12_trainPart_99 : decode cX12_trainPart 99 = .ok (.iastore, 1) := by decide +kernel
theorem dX12_trainPart_100 : decode cX12_trainPart 100 = .ok (.aload_n 0, 1) := by decide +kernel
theorem dX12_trainPart_101 : decode cX12_trainPart 101 = .ok (.getfield 67, 3) := by decide +kernel
theorem dX12_trainPart_104 : decode cX12_trainPart 104 = .ok (.iconst 5, 1) := by decide +kernel
theorem dX12_trainPart_105 : decode cX12_trainPart 105 = .ok (.iconst 1, 1) := by decide +kernel
theorem dX12_trainPart_106 : decode cX12_trainPart 106 = .ok (.iastore, 1) := by decide +kernel
theorem dX12_trainPart_107 : decode cX12_trainPart 107 = .ok (.goto 134, 3) := by decide +kernel
theorem dX12_trainPart_110 : decode cX12_trainPart 110 = .ok (.aload_n 0, 1) := by decide +kernel
theorem dX12_trainPart_111 : decode cX12_trainPart 111 = .ok (.invokevirtual 355, 3) := by decide +kernel
theorem dX12_trainPart_114 : decode cX12_trainPart 114 = .ok (.goto 127, 3) := by decide +kernel
theorem dX12_trainPart_117 : decode cX12_trainPart 117 = .ok (.aload_n 0, 1) := by decide +kernel
theorem dX12_trainPart_118 : decode cX12_trainPart 118 = .ok (.invokevirtual 358, 3) := by decide +kernel
theorem dX12_trainPart_121 : decode cX12_trainPart 121 = .ok (.istore_n 2, 1) := by decide +kernel
theorem dX12_trainPart_122 : decode cX12_trainPart 122 = .ok (.aload_n 0, 1) := by decide +kernel
theorem dX12_trainPart_123 : decode cX12_trainPart 123 = .ok (.getfield 67, 3) := by decide +kernel
theorem dX12_trainPart_126 : decode cX12_trainPart 126 = .ok (.bipush 7, 2) := by decide +kernel
theorem dX12_trainPart_128 : decode cX12_trainPart 128 = .ok (.dup2, 1) := by decide +kernel
theorem dX12_trainPart_129 : decode cX12_trainPart 129 = .ok (.iaload, 1) := by decide +kernel
theorem dX12_trainPart_130 : decode cX12_trainPart 130 = .ok (.aload_n 0, 1) := by decide +kernel
theorem dX12_trainPart_131 : decode cX12_trainPart 131 = .ok (.getfield 243, 3) := by decide +kernel
theorem dX12_trainPart_134 : decode cX12_trainPart 134 = .ok (.ifCond .ne 9, 3) := by decide +kernel
theorem dX12_trainPart_137 : decode cX12_trainPart 137 = .ok (.iconst 1, 1) := by decide +kernel
theorem dX12_trainPart_138 : decode cX12_trainPart 138 = .ok (.iload_n 2, 1) := by decide +kernel
theorem dX12_trainPart_139 : decode cX12_trainPart 139 = .ok (.ishl, 1) := by decide +kernel
theorem dX12_trainPart_140 : decode cX12_trainPart 140 = .ok (.goto 4, 3) := by decide +kernel
theorem dX12_trainPart_143 : decode cX12_trainPart 143 = .ok (.iconst 0, 1) := by decide +kernel
theorem dX12_trainPart_144 : decode cX12_trainPart 144 = .ok (.ior, 1) := by decide +kernel
theorem dX12_trainPart_145 : decode cX12_trainPart 145 = .ok (.iastore, 1) := by decide +kernel
theorem dX12_trainPart_146 : decode cX12_trainPart 146 = .ok (.goto 95, 3) := by decide +kernel
theorem dX12_trainPart_149 : decode cX12_trainPart 149 = .ok (.aload_n 0, 1) := by decide +kernel
theorem dX12_trainPart_150 : decode cX12_trainPart 150 = .ok (.invokevirtual 358, 3) := by decide +kernel
theorem dX12_trainPart_153 : decode cX12_trainPart 153 = .ok (.istore_n 2, 1) := by decide +kernel
theorem dX12_trainPart_154 : decode cX12_trainPart 154 = .ok (.aload_n 0, 1) := by decide +kernel
theorem dX12_trainPart_155 : decode cX12_trainPart 155 = .ok (.iconst 0, 1) := by decide +kernel
theorem dX12_trainPart_156 : decode cX12_trainPart 156 = .ok (.bipush 18, 2) := by decide +kernel
theorem dX12_trainPart_158 : decode cX12_trainPart 158 = .ok (.invokevirtual 351, 3) := by decide +kernel
theorem dX12_trainPart_161 : decode cX12_trainPart 161 = .ok (.istore_n 3, 1) := by decide +kernel
theorem dX12_trainPart_162 : decode cX12_trainPart 162 = .ok (.aload_n 0, 1) := by decide +kernel
theorem dX12_trainPart_163 : decode cX12_trainPart 163 = .ok (.getfield 243, 3) := by decide +kernel
theorem dX12_trainPart_166 : decode cX12_trainPart 166 = .ok (.ifCond .ne 75, 3) := by decide +kernel
theorem dX12_trainPart_169 : decode cX12_trainPart 169 = .ok (.aload_n 0, 1) := by decide +kernel
theorem dX12_trainPart_170 : decode cX12_trainPart 170 = .ok (.getfield 85, 3) := by decide +kernel
theorem dX12_trainPart_173 : decode cX12_trainPart 173 = .ok (.iload_n 2, 1) := by decide +kernel
theorem dX12_trainPart_174 : decode cX12_trainPart 174 = .ok (.iload_n 3, 1) := by decide +kernel
theorem dX12_trainPart_175 : decode cX12_trainPart 175 = .ok (.bipush 9, 2) := by decide +kernel
theorem dX12_trainPart_177 : decode cX12_trainPart 177 = .ok (.isub, 1) := by decide +kernel
theorem dX12_trainPart_178 : decode cX12_trainPart 178 = .ok (.iastore, 1) := by decide +kernel
theorem dX12_trainPart_179 : decode cX12_trainPart 179 = .ok (.goto 62, 3) := by decide +kernel
theorem dX12_trainPart_182 : decode cX12_trainPart 182 = .ok (.aload_n 0, 1) := by decide +kernel
theorem dX12_trainPart_183 : decode cX12_trainPart 183 = .ok (.getfield 67, 3) := by decide +kernel
theorem dX12_trainPart_186 : decode cX12_trainPart 186 = .ok (.bipush 8, 2) := by decide +kernel
theorem dX12_trainPart_188 : decode cX12_trainPart 188 = .ok (.iaload, 1) := by decide +kernel
theorem dX12_trainPart_189 : decode cX12_trainPart 189 = .ok (.istore_n 2, 1) := by decide +kernel
theorem dX12_trainPart_190 : decode cX12_trainPart 190 = .ok (.aload_n 0, 1) := by decide +kernel
theorem dX12_trainPart_191 : decode cX12_trainPart 191 = .ok (.getfield 88, 3) := by decide +kernel
theorem dX12_trainPart_194 : decode cX12_trainPart 194 = .ok (.iload_n 2, 1) := by decide +kernel
theorem dX12_trainPart_195 : decode cX12_trainPart 195 = .ok (.aload_n 0, 1) := by decide +kernel
theorem dX12_trainPart_196 : decode cX12_trainPart 196 = .ok (.iconst 0, 1) := by decide +kernel
theorem dX12_trainPart_197 : decode cX12_trainPart 197 = .ok (.sipush 239, 3) := by decide +kernel
theorem dX12_trainPart_200 : decode cX12_trainPart 200 = .ok (.invokevirtual 351, 3) := by decide +kernel
theorem dX12_trainPart_203 : decode cX12_trainPart 203 = .ok (.iastore, 1) := by decide +kernel
theorem dX12_trainPart_204 : decode cX12_trainPart 204 = .ok (.aload_n 0, 1) := by decide +kernel
theorem dX12_trainPart_205 : decode cX12_trainPart 205 = .ok (.getfield 91, 3) := by decide +kernel
theorem dX12_trainPart_208 : decode cX12_trainPart 208 = .ok (.iload_n 2, 1) := by decide +kernel
theorem dX12_trainPart_209 : decode cX12_trainPart 209 = .ok (.aload_n 0, 1) := by decide +kernel
theorem dX12_trainPart_210 : decode cX12_trainPart 210 = .ok (.aload_n 0, 1) := by decide +kernel
theorem dX12_trainPart_211 : decode cX12_trainPart 211 = .ok (.getfield 88, 3) := by decide +kernel
theorem dX12_trainPart_214 : decode cX12_trainPart 214 = .ok (.iload_n 2, 1) := by decide +kernel
theorem dX12_trainPart_215 : decode cX12_trainPart 215 = .ok (.iaload, 1) := by decide +kernel
theorem dX12_trainPart_216 : decode cX12_trainPart 216 = .ok (.sipush 239, 3) := by decide +kernel
theorem dX12_trainPart_219 : decode cX12_trainPart 219 = .ok (.invokevirtual 351, 3) := by decide +kernel
theorem dX12_trainPart_222 : decode cX12_trainPart 222 = .ok (.iastore, 1) := by decide +kernel
theorem dX12_trainPart_223 : decode cX12_trainPart 223 = .ok (.aload_n 0, 1) := by decide +kernel
theorem dX12_trainPart_224 : decode cX12_trainPart 224 = .ok (.getfield 67, 3) := by decide +kernel
theorem dX12_trainPart_227 : decode cX12_trainPart 227 = .ok (.bipush 8, 2) := by decide +kernel
theorem dX12_trainPart_229 : decode cX12_trainPart 229 = .ok (.dup2, 1) := by decide +kernel
theorem dX12_trainPart_230 : decode cX12_trainPart 230 = .ok (.iaload, 1) := by decide +kernel
theorem dX12_trainPart_231 : decode cX12_trainPart 231 = .ok (.iconst 1, 1) := by decide +kernel
theorem dX12_trainPart_232 : decode cX12_trainPart 232 = .ok (.iadd, 1) := by decide +kernel
theorem dX12_trainPart_233 : decode cX12_trainPart 233 = .ok (.iastore, 1) := by decide +kernel
theorem dX12_trainPart_234 : decode cX12_trainPart 234 = .ok (.goto 7, 3) := by decide +kernel
theorem dX12_trainPart_237 : decode cX12_trainPart 237 = .ok (.aload_n 0, 1) := by decide +kernel
theorem dX12_trainPart_238 : decode cX12_trainPart 238 = .ok (.invokevirtual 361, 3) := by decide +kernel
theorem dX12_trainPart_241 : decode cX12_trainPart 241 = .ok (.return_, 1) := by decide +kernel
def p_X12_trainPart (G : GG) (v1 : Int32) (w : MS) : Option (MS) :=
if v1 = (0 : Int32) then (cw (p_X12_amount G (0 : Int32) (60 : Int32) w) fun r4 w2 =>
ck (ixn 10 (1 : Int32) = true) <|
nn (w_si w2 20 (1 : Int32).toNatClampNeg r4) fun w6 =>
cw (p_X12_amount G (0 : Int32) (3 : Int32) w6) fun r9 w7 =>
ck (ixn 10 (2 : Int32) = true) <|
nn (w_si w7 20 (2 : Int32).toNatClampNeg r9) fun w11 =>
cw (p_X12_amount G (0 : Int32) (6 : Int32) w11) fun r14 w12 =>
ck (ixn 10 (3 : Int32) = true) <|
nn (w_si w12 20 (3 : Int32).toNatClampNeg r14) fun w16 =>
ck (ixn 10 (0 : Int32) = true) <|
nn (w_si w16 20 (0 : Int32).toNatClampNeg (1 : Int32)) fun w18 =>
some w18) else
if v1 = (1 : Int32) then (cw (p_X12_amount G (0 : Int32) (5 : Int32) w) fun r22 w20 =>
ck (ixn 10 (4 : Int32) = true) <|
nn (w_si w20 20 (4 : Int32).toNatClampNeg r22) fun w24 =>
ck (ixn 10 (5 : Int32) = true) <|
nn (w_si w24 20 (5 : Int32).toNatClampNeg (1 : Int32)) fun w26 =>
some w26) else
if v1 = (2 : Int32) then (ob (p_X12_readsPerson G w) fun w28 =>
some w28) else
if v1 = (3 : Int32) then (cw (p_X12_onePerson G w) fun r33 w31 =>
ck (ixn 10 (7 : Int32) = true) <|
nn (fun (s0_144 : Int32) => (ck (ixn 10 (7 : Int32) = true) <|
nn (w_si w31 20 (7 : Int32).toNatClampNeg ((w31.1 20 (7 : Int32).toNatClampNeg) ||| s0_144)) fun w36 =>
some w36)) fun j_144 =>
if (w31.1 0 34) = 0 then (j_144 ((1 : Int32) <<< (r33 &&& 31))) else
j_144 (0 : Int32)) else
if v1 = (4 : Int32) then (cw (p_X12_onePerson G w) fun r41 w39 =>
cw (p_X12_amount G (0 : Int32) (18 : Int32) w39) fun r44 w42 =>
if (w42.1 0 34) = 0 then (ck (ixn 8 r41 = true) <|
nn (w_si w42 26 r41.toNatClampNeg (r44 - (9 : Int32))) fun w47 =>
some w47) else
some w42) else
if v1 = (5 : Int32) then (ck (ixn 10 (8 : Int32) = true) <|
nn (w.1 20 (8 : Int32).toNatClampNeg) fun x50 =>
cw (p_X12_amount G (0 : Int32) (239 : Int32) w) fun r53 w51 =>
ck (ixn 5 x50 = true) <|
nn (w_si w51 27 x50.toNatClampNeg r53) fun w55 =>
ck (ixn 5 x50 = true) <|
cw (p_X12_amount G (w55.1 27 x50.toNatClampNeg) (239 : Int32) w55) fun r59 w57 =>
ck (ixn 5 x50 = true) <|
nn (w_si w57 28 x50.toNatClampNeg r59) fun w61 =>
ck (ixn 10 (8 : Int32) = true) <|
ck (ixn 10 (8 : Int32) = true) <|
nn (w_si w61 20 (8 : Int32).toNatClampNeg ((w61.1 20 (8 : Int32).toNatClampNeg) + (1 : Int32))) fun w64 =>
some w64) else
ob (p_X12_readsCold G w) fun w65 =>
some w65
set_option maxHeartbeats 4000000 in
set_option maxRecDepth 100000 in
theorem pt_X12_trainPart {G : GG} {l : Launch} {M : Nat} {h : AH} (hI : MI h M) {v1 : Int32} {w : MS} {y : MS} (hf : p_X12_trainPart G v1 w = some y) : Ct G l yX12_trainPart cX12_trainPart 4 none 5 113 0 0 [.ref M, .int v1] (mh h M w) (none, mh h M y) := by
  refine ct_of (by decide) (Nat.le_of_ble_eq_true rfl) ?_
  intro p e s m args below meth c C hm hr hin
  have C : Cx G cX12_trainPart RX12 p s m args meth c := C
  refine e_lv (lv2 := [(0, .ref M), (1, .int v1)]) [0, 1] rfl ?_
  unfold p_X12_trainPart at hf
  refine e_iload_n (pc := 0) C dX12_trainPart_0 1 rfl rfl ?_
  rcases it_e hf with ⟨c1, hf⟩ | ⟨c1, hf⟩
  · refine e_tabK (pc := 1) (tgt := 40) (0 : Int32) c1 C dX12_trainPart_1 (by decide) (by decide) rfl (by decide) ?_
    refine e_aload_n (pc := 40) C dX12_trainPart_40 0 rfl rfl ?_
    refine q_getr (pc := 41) 20 hI C dX12_trainPart_41 (by decide) g1421 rfl rfl ?_
    refine e_iconst (v := (1 : Int32)) (pc := 44) C dX12_trainPart_44 (by decide) ?_
    refine e_aload_n (pc := 45) C dX12_trainPart_45 0 rfl rfl ?_
    refine e_iconst (v := (0 : Int32)) (pc := 46) C dX12_trainPart_46 (by decide) ?_
    refine e_bipush (v := (60 : Int32)) (pc := 47) C dX12_trainPart_47 (by decide) ?_
    obtain ⟨r4, w2, y3, hf⟩ := cw_e hf
    refine e_callVi (pc := 49) (st := [.int (1 : Int32), .ref (M + mofs 20)]) 12 C (pt_X12_amount hI y3) dX12_trainPart_49 (by decide) hI.1 g1722 g1724 g65 g157 g1725 hd_X12_amount rfl ⟨Nat.le_of_ble_eq_true rfl, Nat.le_of_ble_eq_true rfl⟩ ⟨Nat.le_of_ble_eq_true rfl, Nat.le_of_ble_eq_true rfl⟩ rfl (Nat.le_of_ble_eq_true rfl) ?_
    obtain ⟨q5, hf⟩ := ck_e hf
    refine q_iast (pc := 52) (k := 20) hI C dX12_trainPart_52 rfl (ixn_e q5) ?_
    obtain ⟨w6, ew6, hf⟩ := nn_e hf
    refine q_hp ew6 ?_
    refine e_aload_n (pc := 53) C dX12_trainPart_53 0 rfl rfl ?_
    refine q_getr (pc := 54) 20 hI C dX12_trainPart_54 (by decide) g1421 rfl rfl ?_
    refine e_iconst (v := (2 : Int32)) (pc := 57) C dX12_trainPart_57 (by decide) ?_
    refine e_aload_n (pc := 58) C dX12_trainPart_58 0 rfl rfl ?_
    refine e_iconst (v := (0 : Int32)) (pc := 59) C dX12_trainPart_59 (by decide) ?_
    refine e_iconst (v := (3 : Int32)) (pc := 60) C dX12_trainPart_60 (by decide) ?_
    obtain ⟨r9, w7, y8, hf⟩ := cw_e hf
    refine e_callVi (pc := 61) (st := [.int (2 : Int32), .ref (M + mofs 20)]) 12 C (pt_X12_amount hI y8) dX12_trainPart_61 (by decide) hI.1 g1722 g1724 g65 g157 g1725 hd_X12_amount rfl ⟨Nat.le_of_ble_eq_true rfl, Nat.le_of_ble_eq_true rfl⟩ ⟨Nat.le_of_ble_eq_true rfl, Nat.le_of_ble_eq_true rfl⟩ rfl (Nat.le_of_ble_eq_true rfl) ?_
    obtain ⟨q10, hf⟩ := ck_e hf
    refine q_iast (pc := 64) (k := 20) hI C dX12_trainPart_64 rfl (ixn_e q10) ?_
    obtain ⟨w11, ew11, hf⟩ := nn_e hf
    refine q_hp ew11 ?_
    refine e_aload_n (pc := 65) C dX12_trainPart_65 0 rfl rfl ?_
    refine q_getr (pc := 66) 20 hI C dX12_trainPart_66 (by decide) g1421 rfl rfl ?_
    refine e_iconst (v := (3 : Int32)) (pc := 69) C dX12_trainPart_69 (by decide) ?_
    refine e_aload_n (pc := 70) C dX12_trainPart_70 0 rfl rfl ?_
    refine e_iconst (v := (0 : Int32)) (pc := 71) C dX12_trainPart_71 (by decide) ?_
    refine e_bipush (v := (6 : Int32)) (pc := 72) C dX12_trainPart_72 (by decide) ?_
    obtain ⟨r14, w12, y13, hf⟩ := cw_e hf
    refine e_callVi (pc := 74) (st := [.int (3 : Int32), .ref (M + mofs 20)]) 12 C (pt_X12_amount hI y13) dX12_trainPart_74 (by decide) hI.1 g1722 g1724 g65 g157 g1725 hd_X12_amount rfl ⟨Nat.le_of_ble_eq_true rfl, Nat.le_of_ble_eq_true rfl⟩ ⟨Nat.le_of_ble_eq_true rfl, Nat.le_of_ble_eq_true rfl⟩ rfl (Nat.le_of_ble_eq_true rfl) ?_
    obtain ⟨q15, hf⟩ := ck_e hf
    refine q_iast (pc := 77) (k := 20) hI C dX12_trainPart_77 rfl (ixn_e q15) ?_
    obtain ⟨w16, ew16, hf⟩ := nn_e hf
    refine q_hp ew16 ?_
    refine e_aload_n (pc := 78) C dX12_trainPart_78 0 rfl rfl ?_
    refine q_getr (pc := 79) 20 hI C dX12_trainPart_79 (by decide) g1421 rfl rfl ?_
    refine e_iconst (v := (0 : Int32)) (pc := 82) C dX12_trainPart_82 (by decide) ?_
    refine e_iconst (v := (1 : Int32)) (pc := 83) C dX12_trainPart_83 (by decide) ?_
    obtain ⟨q17, hf⟩ := ck_e hf
    refine q_iast (pc := 84) (k := 20) hI C dX12_trainPart_84 rfl (ixn_e q17) ?_
    obtain ⟨w18, ew18, hf⟩ := nn_e hf
    refine q_hp ew18 ?_
    refine e_goto (pc := 85) (tgt := 241) C dX12_trainPart_85 (by decide) ?_
    obtain rfl := so_e hf
    exact e_vret (pc := 241) C hr dX12_trainPart_241 (Nat.le_of_ble_eq_true rfl) (Nat.le_of_ble_eq_true rfl)
  rcases it_e hf with ⟨c19, hf⟩ | ⟨c19, hf⟩
  · refine e_tabK (pc := 1) (tgt := 88) (1 : Int32) c19 C dX12_trainPart_1 (by decide) (by decide) rfl (by decide) ?_
    refine e_aload_n (pc := 88) C dX12_trainPart_88 0 rfl rfl ?_
    refine q_getr (pc := 89) 20 hI C dX12_trainPart_89 (by decide) g1421 rfl rfl ?_
    refine e_iconst (v := (4 : Int32)) (pc := 92) C dX12_trainPart_92 (by decide) ?_
    refine e_aload_n (pc := 93) C dX12_trainPart_93 0 rfl rfl ?_
    refine e_iconst (v := (0 : Int32)) (pc := 94) C dX12_trainPart_94 (by decide) ?_
    refine e_iconst (v := (5 : Int32)) (pc := 95) C dX12_trainPart_95 (by decide) ?_
    obtain ⟨r22, w20, y21, hf⟩ := cw_e hf
    refine e_callVi (pc := 96) (st := [.int (4 : Int32), .ref (M + mofs 20)]) 12 C (pt_X12_amount hI y21) dX12_trainPart_96 (by decide) hI.1 g1722 g1724 g65 g157 g1725 hd_X12_amount rfl ⟨Nat.le_of_ble_eq_true rfl, Nat.le_of_ble_eq_true rfl⟩ ⟨Nat.le_of_ble_eq_true rfl, Nat.le_of_ble_eq_true rfl⟩ rfl (Nat.le_of_ble_eq_true rfl) ?_
    obtain ⟨q23, hf⟩ := ck_e hf
    refine q_iast (pc := 99) (k := 20) hI C dX12_trainPart_99 rfl (ixn_e q23) ?_
    obtain ⟨w24, ew24, hf⟩ := nn_e hf
    refine q_hp ew24 ?_
    refine e_aload_n (pc := 100) C dX12_trainPart_100 0 rfl rfl ?_
    refine q_getr (pc := 101) 20 hI C dX12_trainPart_101 (by decide) g1421 rfl rfl ?_
    refine e_iconst (v := (5 : Int32)) (pc := 104) C dX12_trainPart_104 (by decide) ?_
    refine e_iconst (v := (1 : Int32)) (pc := 105) C dX12_trainPart_105 (by decide) ?_
    obtain ⟨q25, hf⟩ := ck_e hf
    refine q_iast (pc := 106) (k := 20) hI C dX12_trainPart_106 rfl (ixn_e q25) ?_
    obtain ⟨w26, ew26, hf⟩ := nn_e hf
    refine q_hp ew26 ?_
    refine e_goto (pc := 107) (tgt := 241) C dX12_trainPart_107 (by decide) ?_
    obtain rfl := so_e hf
    exact e_vret (pc := 241) C hr dX12_trainPart_241 (Nat.le_of_ble_eq_true rfl) (Nat.le_of_ble_eq_true rfl)
  rcases it_e hf with ⟨c27, hf⟩ | ⟨c27, hf⟩
  · refine e_tabK (pc := 1) (tgt := 110) (2 : Int32) c27 C dX12_trainPart_1 (by decide) (by decide) rfl (by decide) ?_
    refine e_aload_n (pc := 110) C dX12_trainPart_110 0 rfl rfl ?_
    obtain ⟨w28, y29, hf⟩ := ob_e hf
    refine e_callVv (pc := 111) (st := []) 12 C (pt_X12_readsPerson hI y29) dX12_trainPart_111 (by decide) hI.1 g1740 g1742 g68 g157 g1743 hd_X12_readsPerson rfl ⟨Nat.le_of_ble_eq_true rfl, Nat.le_of_ble_eq_true rfl⟩ ⟨Nat.le_of_ble_eq_true rfl, Nat.le_of_ble_eq_true rfl⟩ rfl (Nat.le_of_ble_eq_true rfl) ?_
    refine e_goto (pc := 114) (tgt := 241) C dX12_trainPart_114 (by decide) ?_
    obtain rfl := so_e hf
    exact e_vret (pc := 241) C hr dX12_trainPart_241 (Nat.le_of_ble_eq_true rfl) (Nat.le_of_ble_eq_true rfl)
  rcases it_e hf with ⟨c30, hf⟩ | ⟨c30, hf⟩
  · refine e_tabK (pc := 1) (tgt := 117) (3 : Int32) c30 C dX12_trainPart_1 (by decide) (by decide) rfl (by decide) ?_
    refine e_aload_n (pc := 117) C dX12_trainPart_117 0 rfl rfl ?_
    obtain ⟨r33, w31, y32, hf⟩ := cw_e hf
    refine e_callVi (pc := 118) (st := []) 12 C (pt_X12_onePerson hI y32) dX12_trainPart_118 (by decide) hI.1 g1744 g1746 g69 g157 g1747 hd_X12_onePerson rfl ⟨Nat.le_of_ble_eq_true rfl, Nat.le_of_ble_eq_true rfl⟩ ⟨Nat.le_of_ble_eq_true rfl, Nat.le_of_ble_eq_true rfl⟩ rfl (Nat.le_of_ble_eq_true rfl) ?_
    refine e_istore_n (pc := 121) (lv2 := [(2, .int r33), (0, .ref M), (1, .int v1)]) C hm dX12_trainPart_121 rfl (by decide) rfl ?_
    refine e_aload_n (pc := 122) C dX12_trainPart_122 1 rfl rfl ?_
    refine q_getr (pc := 123) 20 hI C dX12_trainPart_123 (by decide) g1421 rfl rfl ?_
    refine e_bipush (v := (7 : Int32)) (pc := 126) C dX12_trainPart_126 (by decide) ?_
    refine e_dup2 (pc := 128) C dX12_trainPart_128 rfl rfl ?_
    obtain ⟨q34, hf⟩ := ck_e hf
    refine q_iald (pc := 129) (k := 20) hI C dX12_trainPart_129 rfl (ixn_e q34) ?_
    refine e_aload_n (pc := 130) C dX12_trainPart_130 1 rfl rfl ?_
    refine q_geti (pc := 131) 34 hI C dX12_trainPart_131 (by decide) g1435 rfl ?_
    obtain ⟨j_144, ej_144, hf⟩ := nn_e hf
    have W_144 : ∀ (s0_144 : Int32), j_144 s0_144 = some y → EE G p l e ({ frames := 5, cells := 0, slots := 0, locals := 113 } : Room) s m args below meth c (none, mh h M y) 0 0 144 [] [.int s0_144, .int (w31.1 20 (7 : Int32).toNatClampNeg), .int (7 : Int32), .ref (M + mofs 20)] (mh h M w31) 0 0 := by
      intro s0_144 hf
      rw [ej_144] at hf
      refine e_ior (pc := 144) C dX12_trainPart_144 ?_
      obtain ⟨q35, hf⟩ := ck_e hf
      refine q_iast (pc := 145) (k := 20) hI C dX12_trainPart_145 rfl (ixn_e q35) ?_
      obtain ⟨w36, ew36, hf⟩ := nn_e hf
      refine q_hp ew36 ?_
      refine e_goto (pc := 146) (tgt := 241) C dX12_trainPart_146 (by decide) ?_
      obtain rfl := so_e hf
      exact e_vret (pc := 241) C hr dX12_trainPart_241 (Nat.le_of_ble_eq_true rfl) (Nat.le_of_ble_eq_true rfl)
    rcases it_e hf with ⟨c37, hf⟩ | ⟨c37, hf⟩
    · refine e_if_ne (pc := 134) (tgt := 143) C dX12_trainPart_134 (by decide) (fun q => absurd c37 q) (fun _ => ?_)
      refine e_iconst (v := (1 : Int32)) (pc := 137) C dX12_trainPart_137 (by decide) ?_
      refine e_iload_n (pc := 138) C dX12_trainPart_138 0 rfl rfl ?_
      refine e_ishl (pc := 139) C dX12_trainPart_139 ?_
      refine e_goto (pc := 140) (tgt := 144) C dX12_trainPart_140 (by decide) ?_
      refine e_lv (lv2 := []) [] rfl ?_
      exact W_144 ((1 : Int32) <<< (r33 &&& 31)) hf
    · refine e_if_ne (pc := 134) (tgt := 143) C dX12_trainPart_134 (by decide) (fun _ => ?_) (fun q => absurd q c37)
      refine e_iconst (v := (0 : Int32)) (pc := 143) C dX12_trainPart_143 (by decide) ?_
      refine e_lv (lv2 := []) [] rfl ?_
      exact W_144 (0 : Int32) hf
  rcases it_e hf with ⟨c38, hf⟩ | ⟨c38, hf⟩
  · refine e_tabK (pc := 1) (tgt := 149) (4 : Int32) c38 C dX12_trainPart_1 (by decide) (by decide) rfl (by decide) ?_
    refine e_aload_n (pc := 149) C dX12_trainPart_149 0 rfl rfl ?_
    obtain ⟨r41, w39, y40, hf⟩ := cw_e hf
    refine e_callVi (pc := 150) (st := []) 12 C (pt_X12_onePerson hI y40) dX12_trainPart_150 (by decide) hI.1 g1744 g1746 g69 g157 g1747 hd_X12_onePerson rfl ⟨Nat.le_of_ble_eq_true rfl, Nat.le_of_ble_eq_true rfl⟩ ⟨Nat.le_of_ble_eq_true rfl, Nat.le_of_ble_eq_true rfl⟩ rfl (Nat.le_of_ble_eq_true rfl) ?_
    refine e_istore_n (pc := 153) (lv2 := [(2, .int r41), (0, .ref M), (1, .int v1)]) C hm dX12_trainPart_153 rfl (by decide) rfl ?_
    refine e_aload_n (pc := 154) C dX12_trainPart_154 1 rfl rfl ?_
    refine e_iconst (v := (0 : Int32)) (pc := 155) C dX12_trainPart_155 (by decide) ?_
    refine e_bipush (v := (18 : Int32)) (pc := 156) C dX12_trainPart_156 (by decide) ?_
    obtain ⟨r44, w42, y43, hf⟩ := cw_e hf
    refine e_callVi (pc := 158) (st := []) 12 C (pt_X12_amount hI y43) dX12_trainPart_158 (by decide) hI.1 g1722 g1724 g65 g157 g1725 hd_X12_amount rfl ⟨Nat.le_of_ble_eq_true rfl, Nat.le_of_ble_eq_true rfl⟩ ⟨Nat.le_of_ble_eq_true rfl, Nat.le_of_ble_eq_true rfl⟩ rfl (Nat.le_of_ble_eq_true rfl) ?_
    refine e_istore_n (pc := 161) (lv2 := [(3, .int r44), (2, .int r41), (0, .ref M), (1, .int v1)]) C hm dX12_trainPart_161 rfl (by decide) rfl ?_
    refine e_aload_n (pc := 162) C dX12_trainPart_162 2 rfl rfl ?_
    refine q_geti (pc := 163) 34 hI C dX12_trainPart_163 (by decide) g1435 rfl ?_
    rcases it_e hf with ⟨c45, hf⟩ | ⟨c45, hf⟩
    · refine e_if_ne (pc := 166) (tgt := 241) C dX12_trainPart_166 (by decide) (fun q => absurd c45 q) (fun _ => ?_)
      refine e_aload_n (pc := 169) C dX12_trainPart_169 2 rfl rfl ?_
      refine q_getr (pc := 170) 26 hI C dX12_trainPart_170 (by decide) g1427 rfl rfl ?_
      refine e_iload_n (pc := 173) C dX12_trainPart_173 1 rfl rfl ?_
      refine e_iload_n (pc := 174) C dX12_trainPart_174 0 rfl rfl ?_
      refine e_bipush (v := (9 : Int32)) (pc := 175) C dX12_trainPart_175 (by decide) ?_
      refine e_isub (pc := 177) C dX12_trainPart_177 ?_
      obtain ⟨q46, hf⟩ := ck_e hf
      refine q_iast (pc := 178) (k := 26) hI C dX12_trainPart_178 rfl (ixn_e q46) ?_
      obtain ⟨w47, ew47, hf⟩ := nn_e hf
      refine q_hp ew47 ?_
      refine e_goto (pc := 179) (tgt := 241) C dX12_trainPart_179 (by decide) ?_
      obtain rfl := so_e hf
      exact e_vret (pc := 241) C hr dX12_trainPart_241 (Nat.le_of_ble_eq_true rfl) (Nat.le_of_ble_eq_true rfl)
    · refine e_if_ne (pc := 166) (tgt := 241) C dX12_trainPart_166 (by decide) (fun _ => ?_) (fun q => absurd q c45)
      obtain rfl := so_e hf
      exact e_vret (pc := 241) C hr dX12_trainPart_241 (Nat.le_of_ble_eq_true rfl) (Nat.le_of_ble_eq_true rfl)
  rcases it_e hf with ⟨c48, hf⟩ | ⟨c48, hf⟩
  · refine e_tabK (pc := 1) (tgt := 182) (5 : Int32) c48 C dX12_trainPart_1 (by decide) (by decide) rfl (by decide) ?_
    refine e_aload_n (pc := 182) C dX12_trainPart_182 0 rfl rfl ?_
    refine q_getr (pc := 183) 20 hI C dX12_trainPart_183 (by decide) g1421 rfl rfl ?_
    refine e_bipush (v := (8 : Int32)) (pc := 186) C dX12_trainPart_186 (by decide) ?_
    obtain ⟨q49, hf⟩ := ck_e hf
    refine q_iald (pc := 188) (k := 20) hI C dX12_trainPart_188 rfl (ixn_e q49) ?_
    obtain ⟨x50, ex50, hf⟩ := nn_e hf
    refine e_topi ex50 ?_
    refine e_istore_n (pc := 189) (lv2 := [(2, .int x50), (0, .ref M), (1, .int v1)]) C hm dX12_trainPart_189 rfl (by decide) rfl ?_
    refine e_aload_n (pc := 190) C dX12_trainPart_190 1 rfl rfl ?_
    refine q_getr (pc := 191) 27 hI C dX12_trainPart_191 (by decide) g1428 rfl rfl ?_
    refine e_iload_n (pc := 194) C dX12_trainPart_194 0 rfl rfl ?_
    refine e_aload_n (pc := 195) C dX12_trainPart_195 1 rfl rfl ?_
    refine e_iconst (v := (0 : Int32)) (pc := 196) C dX12_trainPart_196 (by decide) ?_
    refine e_sipush (v := (239 : Int32)) (pc := 197) C dX12_trainPart_197 (by decide) ?_
    obtain ⟨r53, w51, y52, hf⟩ := cw_e hf
    refine e_callVi (pc := 200) (st := [.int x50, .ref (M + mofs 27)]) 12 C (pt_X12_amount hI y52) dX12_trainPart_200 (by decide) hI.1 g1722 g1724 g65 g157 g1725 hd_X12_amount rfl ⟨Nat.le_of_ble_eq_true rfl, Nat.le_of_ble_eq_true rfl⟩ ⟨Nat.le_of_ble_eq_true rfl, Nat.le_of_ble_eq_true rfl⟩ rfl (Nat.le_of_ble_eq_true rfl) ?_
    obtain ⟨q54, hf⟩ := ck_e hf
    refine q_iast (pc := 203) (k := 27) hI C dX12_trainPart_203 rfl (ixn_e q54) ?_
    obtain ⟨w55, ew55, hf⟩ := nn_e hf
    refine q_hp ew55 ?_
    refine e_aload_n (pc := 204) C dX12_trainPart_204 1 rfl rfl ?_
    refine q_getr (pc := 205) 28 hI C dX12_trainPart_205 (by decide) g1429 rfl rfl ?_
    refine e_iload_n (pc := 208) C dX12_trainPart_208 0 rfl rfl ?_
    refine e_aload_n (pc := 209) C dX12_trainPart_209 1 rfl rfl ?_
    refine e_aload_n (pc := 210) C dX12_trainPart_210 1 rfl rfl ?_
    refine q_getr (pc := 211) 27 hI C dX12_trainPart_211 (by decide) g1428 rfl rfl ?_
    refine e_iload_n (pc := 214) C dX12_trainPart_214 0 rfl rfl ?_
    obtain ⟨q56, hf⟩ := ck_e hf
    refine q_iald (pc := 215) (k := 27) hI C dX12_trainPart_215 rfl (ixn_e q56) ?_
    refine e_sipush (v := (239 : Int32)) (pc := 216) C dX12_trainPart_216 (by decide) ?_
    obtain ⟨r59, w57, y58, hf⟩ := cw_e hf
    refine e_callVi (pc := 219) (st := [.int x50, .ref (M + mofs 28)]) 12 C (pt_X12_amount hI y58) dX12_trainPart_219 (by decide) hI.1 g1722 g1724 g65 g157 g1725 hd_X12_amount rfl ⟨Nat.le_of_ble_eq_true rfl, Nat.le_of_ble_eq_true rfl⟩ ⟨Nat.le_of_ble_eq_true rfl, Nat.le_of_ble_eq_true rfl⟩ rfl (Nat.le_of_ble_eq_true rfl) ?_
    obtain ⟨q60, hf⟩ := ck_e hf
    refine q_iast (pc := 222) (k := 28) hI C dX12_trainPart_222 rfl (ixn_e q60) ?_
    obtain ⟨w61, ew61, hf⟩ := nn_e hf
    refine q_hp ew61 ?_
    refine e_aload_n (pc := 223) C dX12_trainPart_223 1 rfl rfl ?_
    refine q_getr (pc := 224) 20 hI C dX12_trainPart_224 (by decide) g1421 rfl rfl ?_
    refine e_bipush (v := (8 : Int32)) (pc := 227) C dX12_trainPart_227 (by decide) ?_
    refine e_dup2 (pc := 229) C dX12_trainPart_229 rfl rfl ?_
    obtain ⟨q62, hf⟩ := ck_e hf
    refine q_iald (pc := 230) (k := 20) hI C dX12_trainPart_230 rfl (ixn_e q62) ?_
    refine e_iconst (v := (1 : Int32)) (pc := 231) C dX12_trainPart_231 (by decide) ?_
    refine e_iadd (pc := 232) C dX12_trainPart_232 ?_
    obtain ⟨q63, hf⟩ := ck_e hf
    refine q_iast (pc := 233) (k := 20) hI C dX12_trainPart_233 rfl (ixn_e q63) ?_
    obtain ⟨w64, ew64, hf⟩ := nn_e hf
    refine q_hp ew64 ?_
    refine e_goto (pc := 234) (tgt := 241) C dX12_trainPart_234 (by decide) ?_
    obtain rfl := so_e hf
    exact e_vret (pc := 241) C hr dX12_trainPart_241 (Nat.le_of_ble_eq_true rfl) (Nat.le_of_ble_eq_true rfl)
  refine e_tabOut (pc := 1) (tgt := 237) C dX12_trainPart_1 (by have g0 := i_ne 0 (by decide) c1; have g1 := i_ne 1 (by decide) c19; have g2 := i_ne 2 (by decide) c27; have g3 := i_ne 3 (by decide) c30; have g4 := i_ne 4 (by decide) c38; have g5 := i_ne 5 (by decide) c48; omega) (by decide) ?_
  refine e_aload_n (pc := 237) C dX12_trainPart_237 0 rfl rfl ?_
  obtain ⟨w65, y66, hf⟩ := ob_e hf
  refine e_callVv (pc := 238) (st := []) 12 C (pt_X12_readsCold hI y66) dX12_trainPart_238 (by decide) hI.1 g1748 g1750 g70 g157 g1751 hd_X12_readsCold rfl ⟨Nat.le_of_ble_eq_true rfl, Nat.le_of_ble_eq_true rfl⟩ ⟨Nat.le_of_ble_eq_true rfl, Nat.le_of_ble_eq_true rfl⟩ rfl (Nat.le_of_ble_eq_true rfl) ?_
  obtain rfl := so_e hf
  exact e_vret (pc := 241) C hr dX12_trainPart_241 (Nat.le_of_ble_eq_true rfl) (Nat.le_of_ble_eq_true rfl)
theorem dX12_isFull_0 : decode cX12_isFull 0 = .ok (.iload_n 2, 1) := by decide +kernel
theorem dX12_isFull_1 : decode cX12_isFull 1 = .ok (.bipush 40, 2) := by decide +kernel
theorem dX12_isFull_3 : decode cX12_isFull 3 = .ok (.if_icmp .eq 24, 3) := by decide +kernel
theorem dX12_isFull_6 : decode cX12_isFull 6 = .ok (.iload_n 1, 1) := by decide +kernel
theorem dX12_isFull_7 : decode cX12_isFull 7 = .ok (.ifCond .ne 7, 3) := by decide +kernel
theorem dX12_isFull_10 : decode cX12_isFull 10 = .ok (.iconst 1, 1) := by decide +kernel
theorem dX12_isFull_11 : decode cX12_isFull 11 = .ok (.goto 4, 3) := by decide +kernel
theorem dX12_isFull_14 : decode cX12_isFull 14 = .ok (.iconst 0, 1) := by decide +kernel
theorem dX12_isFull_15 : decode cX12_isFull 15 = .ok (.iload_n 2, 1) := by decide +kernel
theorem dX12_isFull_16 : decode cX12_isFull 16 = .ok (.ifCond .ne 7, 3) := by decide +kernel
theorem dX12_isFull_19 : decode cX12_isFull 19 = .ok (.iconst 1, 1) := by decide +kernel
theorem dX12_isFull_20 : decode cX12_isFull 20 = .ok (.goto 4, 3) := by decide +kernel
theorem dX12_isFull_23 : decode cX12_isFull 23 = .ok (.iconst 0, 1) := by decide +kernel
theorem dX12_isFull_24 : decode cX12_isFull 24 = .ok (.if_icmp .eq 5, 3) := by decide +kernel
theorem dX12_isFull_27 : decode cX12_isFull 27 = .ok (.iconst 1, 1) := by decide +kernel
theorem dX12_isFull_28 : decode cX12_isFull 28 = .ok (.ireturn, 1) := by decide +kernel
theorem dX12_isFull_29 : decode cX12_isFull 29 = .ok (.iload_n 1, 1) := by decide +kernel
theorem dX12_isFull_30 : decode cX12_isFull 30 = .ok (.tableswitch 106 1 6 #[38, 54, 106, 106, 72, 89], 38) := by decide +kernel
theorem dX12_isFull_68 : decode cX12_isFull 68 = .ok (.aload_n 0, 1) := by decide +kernel
theorem dX12_isFull_69 : decode cX12_isFull 69 = .ok (.getfield 67, 3) := by decide +kernel
theorem dX12_isFull_72 : decode cX12_isFull 72 = .ok (.iconst 5, 1) := by decide +kernel
theorem dX12_isFull_73 : decode cX12_isFull 73 = .ok (.iaload, 1) := by decide +kernel
theorem dX12_isFull_74 : decode cX12_isFull 74 = .ok (.iconst 1, 1) := by decide +kernel
theorem dX12_isFull_75 : decode cX12_isFull 75 = .ok (.if_icmp .ne 7, 3) := by decide +kernel
theorem dX12_isFull_78 : decode cX12_isFull 78 = .ok (.iconst 1, 1) := by decide +kernel
theorem dX12_isFull_79 : decode cX12_isFull 79 = .ok (.goto 4, 3) := by decide +kernel
theorem dX12_isFull_82 : decode cX12_isFull 82 = .ok (.iconst 0, 1) := by decide +kernel
theorem dX12_isFull_83 : decode cX12_isFull 83 = .ok (.ireturn, 1) := by decide +kernel
theorem dX12_isFull_84 : decode cX12_isFull 84 = .ok (.aload_n 0, 1) := by decide +kernel
theorem dX12_isFull_85 : decode cX12_isFull 85 = .ok (.getfield 67, 3) := by decide +kernel
theorem dX12_isFull_88 : decode cX12_isFull 88 = .ok (.bipush 6, 2) := by decide +kernel
theorem dX12_isFull_90 : decode cX12_isFull 90 = .ok (.iaload, 1) := by decide +kernel
theorem dX12_isFull_91 : decode cX12_isFull 91 = .ok (.bipush 8, 2) := by decide +kernel
theorem dX12_isFull_93 : decode cX12_isFull 93 = .ok (.if_icmp .ne 7, 3) := by decide +kernel
theorem dX12_isFull_96 : decode cX12_isFull 96 = .ok (.iconst 1, 1) := by decide +kernel
theorem dX12_isFull_97 : decode cX12_isFull 97 = .ok (.goto 4, 3) := by decide +kernel
theorem dX12_isFull_100 : decode cX12_isFull 100 = .ok (.iconst 0, 1) := by decide +kernel
theorem dX12_isFull_101 : decode cX12_isFull 101 = .ok (.ireturn, 1) := by decide +kernel
theorem dX12_isFull_102 : decode cX12_isFull 102 = .ok (.aload_n 0, 1) := by decide +kernel
theorem dX12_isFull_103 : decode cX12_isFull 103 = .ok (.getfield 67, 3) := by decide +kernel
theorem dX12_isFull_106 : decode cX12_isFull 106 = .ok (.bipush 8, 2) := by decide +kernel
theorem dX12_isFull_108 : decode cX12_isFull 108 = .ok (.iaload, 1) := by decide +kernel
theorem dX12_isFull_109 : decode cX12_isFull 109 = .ok (.iconst 5, 1) := by decide +kernel
theorem dX12_isFull_110 : decode cX12_isFull 110 = .ok (.if_icmp .ne 7, 3) := by decide +kernel
theorem dX12_isFull_113 : decode cX12_isFull 113 = .ok (.iconst 1, 1) := by decide +kernel
theorem dX12_isFull_114 : decode cX12_isFull 114 = .ok (.goto 4, 3) := by decide +kernel
theorem dX12_isFull_117 : decode cX12_isFull 117 = .ok (.iconst 0, 1) := by decide +kernel
theorem dX12_isFull_118 : decode cX12_isFull 118 = .ok (.ireturn, 1) := by decide +kernel
theorem dX12_isFull_119 : decode cX12_isFull 119 = .ok (.aload_n 0, 1) := by decide +kernel
theorem dX12_isFull_120 : decode cX12_isFull 120 = .ok (.getfield 67, 3) := by decide +kernel
theorem dX12_isFull_123 : decode cX12_isFull 123 = .ok (.bipush 9, 2) := by decide +kernel
theorem dX12_isFull_125 : decode cX12_isFull 125 = .ok (.iaload, 1) := by decide +kernel
theorem dX12_isFull_126 : decode cX12_isFull 126 = .ok (.iconst 5, 1) := by decide +kernel
theorem dX12_isFull_127 : decode cX12_isFull 127 = .ok (.if_icmp .ne 7, 3) := by decide +kernel
theorem dX12_isFull_130 : decode cX12_isFull 130 = .ok (.iconst 1, 1) := by decide +kernel
theorem dX12_isFull_131 : decode cX12_isFull 131 = .ok (.goto 4, 3) := by decide +kernel
theorem dX12_isFull_134 : decode cX12_isFull 134 = .ok (.iconst 0, 1) := by decide +kernel
theorem dX12_isFull_135 : decode cX12_isFull 135 = .ok (.ireturn, 1) := by decide +kernel
theorem dX12_isFull_136 : decode cX12_isFull 136 = .ok (.iconst 0, 1) := by decide +kernel
theorem dX12_isFull_137 : decode cX12_isFull 137 = .ok (.ireturn, 1) := by decide +kernel
def p_X12_isFull (G : GG) (v1 : Int32) (v2 : Int32) (w : MS) : Option (Int32 × MS) :=
if v2 = (40 : Int32) then (some ((1 : Int32), w)) else
nn (fun (s0_15 : Int32) => (nn (fun (s0_24 : Int32) => (if s0_15 = s0_24 then (if v1 = (1 : Int32) then (ck (ixn 10 (5 : Int32) = true) <|
if (w.1 20 (5 : Int32).toNatClampNeg) = (1 : Int32) then (some ((1 : Int32), w)) else
some ((0 : Int32), w)) else
if v1 = (2 : Int32) then (ck (ixn 10 (6 : Int32) = true) <|
if (w.1 20 (6 : Int32).toNatClampNeg) = (8 : Int32) then (some ((1 : Int32), w)) else
some ((0 : Int32), w)) else
if v1 = (3 : Int32) then (some ((0 : Int32), w)) else
if v1 = (4 : Int32) then (some ((0 : Int32), w)) else
if v1 = (5 : Int32) then (ck (ixn 10 (8 : Int32) = true) <|
if (w.1 20 (8 : Int32).toNatClampNeg) = (5 : Int32) then (some ((1 : Int32), w)) else
some ((0 : Int32), w)) else
if v1 = (6 : Int32) then (ck (ixn 10 (9 : Int32) = true) <|
if (w.1 20 (9 : Int32).toNatClampNeg) = (5 : Int32) then (some ((1 : Int32), w)) else
some ((0 : Int32), w)) else
some ((0 : Int32), w)) else
some ((1 : Int32), w))) fun j_24 =>
if v2 = 0 then (j_24 (1 : Int32)) else
j_24 (0 : Int32))) fun j_15 =>
if v1 = 0 then (j_15 (1 : Int32)) else
j_15 (0 : Int32)
set_option maxHeartbeats 4000000 in
set_option maxRecDepth 100000 in
theorem pt_X12_isFull {G : GG} {l : Launch} {M : Nat} {h : AH} (hI : MI h M) {v1 : Int32} {v2 : Int32} {w : MS} {y : Int32 × MS} (hf : p_X12_isFull G v1 v2 w = some y) : Ct G l yX12_isFull cX12_isFull 3 (some .boolean) 0 0 0 0 [.ref M, .int v1, .int v2] (mh h M w) (some (.int y.1), mh h M y.2) := by
  refine ct_of (by decide) (Nat.le_of_ble_eq_true rfl) ?_
  intro p e s m args below meth c C hm hr hin
  have C : Cx G cX12_isFull RX12 p s m args meth c := C
  refine e_lv (lv2 := [(0, .ref M), (1, .int v1), (2, .int v2)]) [0, 1, 2] rfl ?_
  unfold p_X12_isFull at hf
  refine e_iload_n (pc := 0) C dX12_isFull_0 2 rfl rfl ?_
  refine e_bipush (v := (40 : Int32)) (pc := 1) C dX12_isFull_1 (by decide) ?_
  rcases it_e hf with ⟨c1, hf⟩ | ⟨c1, hf⟩
  · refine e_icmp_eq (pc := 3) (tgt := 27) C dX12_isFull_3 (by decide) (fun _ => ?_) (fun q => absurd c1 q)
    refine e_iconst (v := (1 : Int32)) (pc := 27) C dX12_isFull_27 (by decide) ?_
    obtain rfl := so_e hf
    exact e_zret (pc := 28) (v := (1 : Int32)) C hr (nz_ok (by decide)) dX12_isFull_28 (Nat.le_of_ble_eq_true rfl) (Nat.le_of_ble_eq_true rfl)
  · refine e_icmp_eq (pc := 3) (tgt := 27) C dX12_isFull_3 (by decide) (fun q => absurd q c1) (fun _ => ?_)
    refine e_iload_n (pc := 6) C dX12_isFull_6 1 rfl rfl ?_
    obtain ⟨j_15, ej_15, hf⟩ := nn_e hf
    have W_15 : ∀ (s0_15 : Int32), j_15 s0_15 = some y → EE G p l e ({ frames := 0, cells := 0, slots := 0, locals := 0 } : Room) s m args below meth c (some (.int y.1), mh h M y.2) 0 0 15 [(0, .ref M), (1, .int v1), (2, .int v2)] [.int s0_15] (mh h M w) 0 0 := by
      intro s0_15 hf
      rw [ej_15] at hf
      refine e_iload_n (pc := 15) C dX12_isFull_15 2 rfl rfl ?_
      obtain ⟨j_24, ej_24, hf⟩ := nn_e hf
      have W_24 : ∀ (s0_24 : Int32), j_24 s0_24 = some y → EE G p l e ({ frames := 0, cells := 0, slots := 0, locals := 0 } : Room) s m args below meth c (some (.int y.1), mh h M y.2) 0 0 24 [(0, .ref M), (1, .int v1)] [.int s0_24, .int s0_15] (mh h M w) 0 0 := by
        intro s0_24 hf
        rw [ej_24] at hf
        rcases it_e hf with ⟨c2, hf⟩ | ⟨c2, hf⟩
        · refine e_icmp_eq (pc := 24) (tgt := 29) C dX12_isFull_24 (by decide) (fun _ => ?_) (fun q => absurd c2 q)
          refine e_iload_n (pc := 29) C dX12_isFull_29 1 rfl rfl ?_
          rcases it_e hf with ⟨c3, hf⟩ | ⟨c3, hf⟩
          · refine e_tabK (pc := 30) (tgt := 68) (1 : Int32) c3 C dX12_isFull_30 (by decide) (by decide) rfl (by decide) ?_
            refine e_aload_n (pc := 68) C dX12_isFull_68 0 rfl rfl ?_
            refine q_getr (pc := 69) 20 hI C dX12_isFull_69 (by decide) g1421 rfl rfl ?_
            refine e_iconst (v := (5 : Int32)) (pc := 72) C dX12_isFull_72 (by decide) ?_
            obtain ⟨q4, hf⟩ := ck_e hf
            refine q_iald (pc := 73) (k := 20) hI C dX12_isFull_73 rfl (ixn_e q4) ?_
            refine e_iconst (v := (1 : Int32)) (pc := 74) C dX12_isFull_74 (by decide) ?_
            rcases it_e hf with ⟨c5, hf⟩ | ⟨c5, hf⟩
            · refine e_icmp_ne (pc := 75) (tgt := 82) C dX12_isFull_75 (by decide) (fun q => absurd c5 q) (fun _ => ?_)
              refine e_iconst (v := (1 : Int32)) (pc := 78) C dX12_isFull_78 (by decide) ?_
              refine e_goto (pc := 79) (tgt := 83) C dX12_isFull_79 (by decide) ?_
              obtain rfl := so_e hf
              exact e_zret (pc := 83) (v := (1 : Int32)) C hr (nz_ok (by decide)) dX12_isFull_83 (Nat.le_of_ble_eq_true rfl) (Nat.le_of_ble_eq_true rfl)
            · refine e_icmp_ne (pc := 75) (tgt := 82) C dX12_isFull_75 (by decide) (fun _ => ?_) (fun q => absurd q c5)
              refine e_iconst (v := (0 : Int32)) (pc := 82) C dX12_isFull_82 (by decide) ?_
              obtain rfl := so_e hf
              exact e_zret (pc := 83) (v := (0 : Int32)) C hr (nz_ok (by decide)) dX12_isFull_83 (Nat.le_of_ble_eq_true rfl) (Nat.le_of_ble_eq_true rfl)
          rcases it_e hf with ⟨c6, hf⟩ | ⟨c6, hf⟩
          · refine e_tabK (pc := 30) (tgt := 84) (2 : Int32) c6 C dX12_isFull_30 (by decide) (by decide) rfl (by decide) ?_
            refine e_aload_n (pc := 84) C dX12_isFull_84 0 rfl rfl ?_
            refine q_getr (pc := 85) 20 hI C dX12_isFull_85 (by decide) g1421 rfl rfl ?_
            refine e_bipush (v := (6 : Int32)) (pc := 88) C dX12_isFull_88 (by decide) ?_
            obtain ⟨q7, hf⟩ := ck_e hf
            refine q_iald (pc := 90) (k := 20) hI C dX12_isFull_90 rfl (ixn_e q7) ?_
            refine e_bipush (v := (8 : Int32)) (pc := 91) C dX12_isFull_91 (by decide) ?_
            rcases it_e hf with ⟨c8, hf⟩ | ⟨c8, hf⟩
            · refine e_icmp_ne (pc := 93) (tgt := 100) C dX12_isFull_93 (by decide) (fun q => absurd c8 q) (fun _ => ?_)
              refine e_iconst (v := (1 : Int32)) (pc := 96) C dX12_isFull_96 (by decide) ?_
              refine e_goto (pc := 97) (tgt := 101) C dX12_isFull_97 (by decide) ?_
              obtain rfl := so_e hf
              exact e_zret (pc := 101) (v := (1 : Int32)) C hr (nz_ok (by decide)) dX12_isFull_101 (Nat.le_of_ble_eq_true rfl) (Nat.le_of_ble_eq_true rfl)
            · refine e_icmp_ne (pc := 93) (tgt := 100) C dX12_isFull_93 (by decide) (fun _ => ?_) (fun q => absurd q c8)
              refine e_iconst (v := (0 : Int32)) (pc := 100) C dX12_isFull_100 (by decide) ?_
              obtain rfl := so_e hf
              exact e_zret (pc := 101) (v := (0 : Int32)) C hr (nz_ok (by decide)) dX12_isFull_101 (Nat.le_of_ble_eq_true rfl) (Nat.le_of_ble_eq_true rfl)
          rcases it_e hf with ⟨c9, hf⟩ | ⟨c9, hf⟩
          · refine e_tabK (pc := 30) (tgt := 136) (3 : Int32) c9 C dX12_isFull_30 (by decide) (by decide) rfl (by decide) ?_
            refine e_iconst (v := (0 : Int32)) (pc := 136) C dX12_isFull_136 (by decide) ?_
            obtain rfl := so_e hf
            exact e_zret (pc := 137) (v := (0 : Int32)) C hr (nz_ok (by decide)) dX12_isFull_137 (Nat.le_of_ble_eq_true rfl) (Nat.le_of_ble_eq_true rfl)
          rcases it_e hf with ⟨c10, hf⟩ | ⟨c10, hf⟩
          · refine e_tabK (pc := 30) (tgt := 136) (4 : Int32) c10 C dX12_isFull_30 (by decide) (by decide) rfl (by decide) ?_
            refine e_iconst (v := (0 : Int32)) (pc := 136) C dX12_isFull_136 (by decide) ?_
            obtain rfl := so_e hf
            exact e_zret (pc := 137) (v := (0 : Int32)) C hr (nz_ok (by decide)) dX12_isFull_137 (Nat.le_of_ble_eq_true rfl) (Nat.le_of_ble_eq_true rfl)
          rcases it_e hf with ⟨c11, hf⟩ | ⟨c11, hf⟩
          · refine e_tabK (pc := 30) (tgt := 102) (5 : Int32) c11 C dX12_isFull_30 (by decide) (by decide) rfl (by decide) ?_
            refine e_aload_n (pc := 102) C dX12_isFull_102 0 rfl rfl ?_
            refine q_getr (pc := 103) 20 hI C dX12_isFull_103 (by decide) g1421 rfl rfl ?_
            refine e_bipush (v := (8 : Int32)) (pc := 106) C dX12_isFull_106 (by decide) ?_
            obtain ⟨q12, hf⟩ := ck_e hf
            refine q_iald (pc := 108) (k := 20) hI C dX12_isFull_108 rfl (ixn_e q12) ?_
            refine e_iconst (v := (5 : Int32)) (pc := 109) C dX12_isFull_109 (by decide) ?_
            rcases it_e hf with ⟨c13, hf⟩ | ⟨c13, hf⟩
            · refine e_icmp_ne (pc := 110) (tgt := 117) C dX12_isFull_110 (by decide) (fun q => absurd c13 q) (fun _ => ?_)
              refine e_iconst (v := (1 : Int32)) (pc := 113) C dX12_isFull_113 (by decide) ?_
              refine e_goto (pc := 114) (tgt := 118) C dX12_isFull_114 (by decide) ?_
              obtain rfl := so_e hf
              exact e_zret (pc := 118) (v := (1 : Int32)) C hr (nz_ok (by decide)) dX12_isFull_118 (Nat.le_of_ble_eq_true rfl) (Nat.le_of_ble_eq_true rfl)
            · refine e_icmp_ne (pc := 110) (tgt := 117) C dX12_isFull_110 (by decide) (fun _ => ?_) (fun q => absurd q c13)
              refine e_iconst (v := (0 : Int32)) (pc := 117) C dX12_isFull_117 (by decide) ?_
              obtain rfl := so_e hf
              exact e_zret (pc := 118) (v := (0 : Int32)) C hr (nz_ok (by decide)) dX12_isFull_118 (Nat.le_of_ble_eq_true rfl) (Nat.le_of_ble_eq_true rfl)
          rcases it_e hf with ⟨c14, hf⟩ | ⟨c14, hf⟩
          · refine e_tabK (pc := 30) (tgt := 119) (6 : Int32) c14 C dX12_isFull_30 (by decide) (by decide) rfl (by decide) ?_
            refine e_aload_n (pc := 119) C dX12_isFull_119 0 rfl rfl ?_
            refine q_getr (pc := 120) 20 hI C dX12_isFull_120 (by decide) g1421 rfl rfl ?_
            refine e_bipush (v := (9 : Int32)) (pc := 123) C dX12_isFull_123 (by decide) ?_
            obtain ⟨q15, hf⟩ := ck_e hf
            refine q_iald (pc := 125) (k := 20) hI C dX12_isFull_125 rfl (ixn_e q15) ?_
            refine e_iconst (v := (5 : Int32)) (pc := 126) C dX12_isFull_126 (by decide) ?_
            rcases it_e hf with ⟨c16, hf⟩ | ⟨c16, hf⟩
            · refine e_icmp_ne (pc := 127) (tgt := 134) C dX12_isFull_127 (by decide) (fun q => absurd c16 q) (fun _ => ?_)
              refine e_iconst (v := (1 : Int32)) (pc := 130) C dX12_isFull_130 (by decide) ?_
              refine e_goto (pc := 131) (tgt := 135) C dX12_isFull_131 (by decide) ?_
              obtain rfl := so_e hf
              exact e_zret (pc := 135) (v := (1 : Int32)) C hr (nz_ok (by decide)) dX12_isFull_135 (Nat.le_of_ble_eq_true rfl) (Nat.le_of_ble_eq_true rfl)
            · refine e_icmp_ne (pc := 127) (tgt := 134) C dX12_isFull_127 (by decide) (fun _ => ?_) (fun q => absurd q c16)
              refine e_iconst (v := (0 : Int32)) (pc := 134) C dX12_isFull_134 (by decide) ?_
              obtain rfl := so_e hf
              exact e_zret (pc := 135) (v := (0 : Int32)) C hr (nz_ok (by decide)) dX12_isFull_135 (Nat.le_of_ble_eq_true rfl) (Nat.le_of_ble_eq_true rfl)
          refine e_tabOut (pc := 30) (tgt := 136) C dX12_isFull_30 (by have g0 := i_ne 1 (by decide) c3; have g1 := i_ne 2 (by decide) c6; have g2 := i_ne 3 (by decide) c9; have g3 := i_ne 4 (by decide) c10; have g4 := i_ne 5 (by decide) c11; have g5 := i_ne 6 (by decide) c14; omega) (by decide) ?_
          refine e_iconst (v := (0 : Int32)) (pc := 136) C dX12_isFull_136 (by decide) ?_
          obtain rfl := so_e hf
          exact e_zret (pc := 137) (v := (0 : Int32)) C hr (nz_ok (by decide)) dX12_isFull_137 (Nat.le_of_ble_eq_true rfl) (Nat.le_of_ble_eq_true rfl)
        · refine e_icmp_eq (pc := 24) (tgt := 29) C dX12_isFull_24 (by decide) (fun q => absurd q c2) (fun _ => ?_)
          refine e_iconst (v := (1 : Int32)) (pc := 27) C dX12_isFull_27 (by decide) ?_
          obtain rfl := so_e hf
          exact e_zret (pc := 28) (v := (1 : Int32)) C hr (nz_ok (by decide)) dX12_isFull_28 (Nat.le_of_ble_eq_true rfl) (Nat.le_of_ble_eq_true rfl)
      rcases it_e hf with ⟨c17, hf⟩ | ⟨c17, hf⟩
      · refine e_if_ne (pc := 16) (tgt := 23) C dX12_isFull_16 (by decide) (fun q => absurd c17 q) (fun _ => ?_)
        refine e_iconst (v := (1 : Int32)) (pc := 19) C dX12_isFull_19 (by decide) ?_
        refine e_goto (pc := 20) (tgt := 24) C dX12_isFull_20 (by decide) ?_
        refine e_lv (lv2 := [(0, .ref M), (1, .int v1)]) [0, 1] rfl ?_
        exact W_24 (1 : Int32) hf
      · refine e_if_ne (pc := 16) (tgt := 23) C dX12_isFull_16 (by decide) (fun _ => ?_) (fun q => absurd q c17)
        refine e_iconst (v := (0 : Int32)) (pc := 23) C dX12_isFull_23 (by decide) ?_
        refine e_lv (lv2 := [(0, .ref M), (1, .int v1)]) [0, 1] rfl ?_
        exact W_24 (0 : Int32) hf
    rcases it_e hf with ⟨c18, hf⟩ | ⟨c18, hf⟩
    · refine e_if_ne (pc := 7) (tgt := 14) C dX12_isFull_7 (by decide) (fun q => absurd c18 q) (fun _ => ?_)
      refine e_iconst (v := (1 : Int32)) (pc := 10) C dX12_isFull_10 (by decide) ?_
      refine e_goto (pc := 11) (tgt := 15) C dX12_isFull_11 (by decide) ?_
      exact W_15 (1 : Int32) hf
    · refine e_if_ne (pc := 7) (tgt := 14) C dX12_isFull_7 (by decide) (fun _ => ?_) (fun q => absurd q c18)
      refine e_iconst (v := (0 : Int32)) (pc := 14) C dX12_isFull_14 (by decide) ?_
      exact W_15 (0 : Int32) hf
theorem dX12_trainClause_0 : decode cX12_trainClause 0 = .ok (.aload_n 0, 1) := by decide +kernel
theorem dX12_trainClause_1 : decode cX12_trainClause 1 = .ok (.invokevirtual 266, 3) := by decide +kernel
theorem dX12_trainClause_4 : decode cX12_trainClause 4 = .ok (.aload_n 0, 1) := by decide +kernel
theorem dX12_trainClause_5 : decode cX12_trainClause 5 = .ok (.getfield 246, 3) := by decide +kernel
theorem dX12_trainClause_8 : decode cX12_trainClause 8 = .ok (.istore_n 2, 1) := by decide +kernel
theorem dX12_trainClause_9 : decode cX12_trainClause 9 = .ok (.iconst 0, 1) := by decide +kernel
theorem dX12_trainClause_10 : decode cX12_trainClause 10 = .ok (.istore_n 3, 1) := by decide +kernel
theorem dX12_trainClause_11 : decode cX12_trainClause 11 = .ok (.iload_n 3, 1) := by decide +kernel
theorem dX12_trainClause_12 : decode cX12_trainClause 12 = .ok (.bipush 7, 2) := by decide +kernel
theorem dX12_trainClause_14 : decode cX12_trainClause 14 = .ok (.if_icmp .ge 20, 3) := by decide +kernel
theorem dX12_trainClause_17 : decode cX12_trainClause 17 = .ok (.aload_n 0, 1) := by decide +kernel
theorem dX12_trainClause_18 : decode cX12_trainClause 18 = .ok (.iload_n 3, 1) := by decide +kernel
theorem dX12_trainClause_19 : decode cX12_trainClause 19 = .ok (.invokestatic 364, 3) := by decide +kernel
theorem dX12_trainClause_22 : decode cX12_trainClause 22 = .ok (.invokevirtual 269, 3) := by decide +kernel
theorem dX12_trainClause_25 : decode cX12_trainClause 25 = .ok (.ifCond .ne 9, 3) := by decide +kernel
theorem dX12_trainClause_28 : decode cX12_trainClause 28 = .ok (.iinc 3 1, 3) := by decide +kernel
theorem dX12_trainClause_31 : decode cX12_trainClause 31 = .ok (.goto (-20), 3) := by decide +kernel
theorem dX12_trainClause_34 : decode cX12_trainClause 34 = .ok (.iload_n 3, 1) := by decide +kernel
theorem dX12_trainClause_35 : decode cX12_trainClause 35 = .ok (.bipush 7, 2) := by decide +kernel
theorem dX12_trainClause_37 : decode cX12_trainClause 37 = .ok (.if_icmp .ne 10, 3) := by decide +kernel
theorem dX12_trainClause_40 : decode cX12_trainClause 40 = .ok (.aload_n 0, 1) := by decide +kernel
theorem dX12_trainClause_41 : decode cX12_trainClause 41 = .ok (.iconst 0, 1) := by decide +kernel
theorem dX12_trainClause_42 : decode cX12_trainClause 42 = .ok (.iload_n 2, 1) := by decide +kernel
theorem dX12_trainClause_43 : decode cX12_trainClause 43 = .ok (.invokevirtual 282, 3) := by decide +kernel
theorem dX12_trainClause_46 : decode cX12_trainClause 46 = .ok (.return_, 1) := by decide +kernel
theorem dX12_trainClause_47 : decode cX12_trainClause 47 = .ok (.aload_n 0, 1) := by decide +kernel
theorem dX12_trainClause_48 : decode cX12_trainClause 48 = .ok (.iload_n 3, 1) := by decide +kernel
theorem dX12_trainClause_49 : decode cX12_trainClause 49 = .ok (.iload_n 1, 1) := by decide +kernel
theorem dX12_trainClause_50 : decode cX12_trainClause 50 = .ok (.invokevirtual 367, 3) := by decide +kernel
theorem dX12_trainClause_53 : decode cX12_trainClause 53 = .ok (.ifCond .eq 10, 3) := by decide +kernel
theorem dX12_trainClause_56 : decode cX12_trainClause 56 = .ok (.aload_n 0, 1) := by decide +kernel
theorem dX12_trainClause_57 : decode cX12_trainClause 57 = .ok (.iconst 4, 1) := by decide +kernel
theorem dX12_trainClause_58 : decode cX12_trainClause 58 = .ok (.iload_n 2, 1) := by decide +kernel
theorem dX12_trainClause_59 : decode cX12_trainClause 59 = .ok (.invokevirtual 282, 3) := by decide +kernel
theorem dX12_trainClause_62 : decode cX12_trainClause 62 = .ok (.return_, 1) := by decide +kernel
theorem dX12_trainClause_63 : decode cX12_trainClause 63 = .ok (.aload_n 0, 1) := by decide +kernel
theorem dX12_trainClause_64 : decode cX12_trainClause 64 = .ok (.dup, 1) := by decide +kernel
theorem dX12_trainClause_65 : decode cX12_trainClause 65 = .ok (.getfield 246, 3) := by decide +kernel
theorem dX12_trainClause_68 : decode cX12_trainClause 68 = .ok (.iload_n 3, 1) := by decide +kernel
theorem dX12_trainClause_69 : decode cX12_trainClause 69 = .ok (.invokestatic 364, 3) := by decide +kernel
theorem dX12_trainClause_72 : decode cX12_trainClause 72 = .ok (.invokevirtual 257, 3) := by decide +kernel
theorem dX12_trainClause_75 : decode cX12_trainClause 75 = .ok (.iadd, 1) := by decide +kernel
theorem dX12_trainClause_76 : decode cX12_trainClause 76 = .ok (.putfield 246, 3) := by decide +kernel
theorem dX12_trainClause_79 : decode cX12_trainClause 79 = .ok (.aload_n 0, 1) := by decide +kernel
theorem dX12_trainClause_80 : decode cX12_trainClause 80 = .ok (.iload_n 3, 1) := by decide +kernel
theorem dX12_trainClause_81 : decode cX12_trainClause 81 = .ok (.invokevirtual 371, 3) := by decide +kernel
theorem dX12_trainClause_84 : decode cX12_trainClause 84 = .ok (.return_, 1) := by decide +kernel
def P_X12_trainClause_11 (G : GG) (v1 : Int32) (v2 : Int32) (K_34 : Int32 → MS → Option (MS)) (self_11 : Int32 → MS → Option (MS)) (v3 : Int32) (w : MS) : Option (MS) :=
if (7 : Int32) ≤ v3 then (K_34 v3 w) else
cw (p_X12_trainWord G v3 w) fun r7 w5 =>
cw (p_X12_stood G r7 w5) fun r10 w8 =>
if r10 = 0 then (nn (v3 + (1 : Int32)) fun x12 =>
self_11 x12 w8) else
K_34 v3 w8
def p_X12_trainClause (G : GG) (v1 : Int32) (w : MS) : Option (MS) :=
ob (p_X12_blanks G w) fun w1 =>
nn (w1.1 0 33) fun x3 =>
lw1 (P_X12_trainClause_11 G v1 x3 (fun (v3_34 : Int32) (h_34 : MS) => (if v3_34 = (7 : Int32) then (ob (p_X12_fails G (0 : Int32) x3 h_34) fun w14 =>
some w14) else
cw (p_X12_isFull G v3_34 v1 h_34) fun r18 w16 =>
if r18 = 0 then (cw (p_X12_trainWord G v3_34 w16) fun r22 w20 =>
cw (p_J0_length_8abf5 G r22 w20) fun r25 w23 =>
nn (w_si w23 0 33 ((w16.1 0 33) + r25)) fun w26 =>
ob (p_X12_trainPart G v3_34 w26) fun w27 =>
some w27) else
ob (p_X12_fails G (4 : Int32) x3 w16) fun w29 =>
some w29))) bN (0 : Int32) w1
set_option maxHeartbeats 4000000 in
set_option maxRecDepth 100000 in
theorem ep_X12_trainClause_11 {G : GG} {p : Program} {l : Launch} {e : Env} {s : State} {m : MethodId} {args : Array Value} {below : List Frame} {meth : Method} {c : Code} {y : MS} {M : Nat} {h : AH} (hI : MI h M) (C : Cx G cX12_trainClause RX12 p s m args meth c) (hm : c.maxLocals = 4) (hr : meth.sig.returnType = none) (hin : meth.name = yX12_trainClause.name) {v1 : Int32} {v2 : Int32} {K_34 : Int32 → MS → Option (MS)} (hK_34 : ∀ (u3 : Int32) (w : MS), K_34 u3 w = some y → EE G p l e ({ frames := 6, cells := 0, slots := 0, locals := 136 } : Room) s m args below meth c (none, mh h M y) 0 0 34 [(0, .ref M), (1, .int v1), (2, .int v2), (3, .int u3)] [] (mh h M w) 0 0) :
    ∀ (n : Nat) (v3 : Int32) (w : MS), lw1 (P_X12_trainClause_11 G v1 v2 K_34) n v3 w = some y → EE G p l e ({ frames := 6, cells := 0, slots := 0, locals := 136 } : Room) s m args below meth c (none, mh h M y) 0 0 11 [(0, .ref M), (1, .int v1), (2, .int v2), (3, .int v3)] [] (mh h M w) 0 0 := by
  intro n
  induction n with
  | zero => intro v3 w hf; exact (no_e hf).elim
  | succ n ih_11 =>
    intro v3 w hf
    have hf : P_X12_trainClause_11 G v1 v2 K_34 (lw1 (P_X12_trainClause_11 G v1 v2 K_34) n) v3 w = some y := hf
    generalize lw1 (P_X12_trainClause_11 G v1 v2 K_34) n = self_11 at hf ih_11
    unfold P_X12_trainClause_11 at hf
    refine e_iload_n (pc := 11) C dX12_trainClause_11 3 rfl rfl ?_
    refine e_bipush (v := (7 : Int32)) (pc := 12) C dX12_trainClause_12 (by decide) ?_
    rcases it_e hf with ⟨c4, hf⟩ | ⟨c4, hf⟩
    · refine e_icmp_ge (pc := 14) (tgt := 34) C dX12_trainClause_14 (by decide) (fun _ => ?_) (fun q => absurd c4 q)
      exact hK_34 v3 w hf
    · refine e_icmp_ge (pc := 14) (tgt := 34) C dX12_trainClause_14 (by decide) (fun q => absurd q c4) (fun _ => ?_)
      refine e_aload_n (pc := 17) C dX12_trainClause_17 0 rfl rfl ?_
      refine e_iload_n (pc := 18) C dX12_trainClause_18 3 rfl rfl ?_
      obtain ⟨r7, w5, y6, hf⟩ := cw_e hf
      refine e_callSi (pc := 19) (st := [.ref M]) C (pt_X12_trainWord hI y6) dX12_trainClause_19 g1694 g1695 g157 g1696 hd_X12_trainWord rfl ⟨Nat.le_of_ble_eq_true rfl, Nat.le_of_ble_eq_true rfl⟩ ⟨Nat.le_of_ble_eq_true rfl, Nat.le_of_ble_eq_true rfl⟩ rfl (Nat.le_of_ble_eq_true rfl) ?_
      obtain ⟨r10, w8, y9, hf⟩ := cw_e hf
      refine e_callVi (pc := 22) (st := []) 12 C (pt_X12_stood hI y9) dX12_trainClause_22 (by decide) hI.1 g1704 g1706 g61 g157 g1707 hd_X12_stood rfl ⟨Nat.le_of_ble_eq_true rfl, Nat.le_of_ble_eq_true rfl⟩ ⟨Nat.le_of_ble_eq_true rfl, Nat.le_of_ble_eq_true rfl⟩ rfl (Nat.le_of_ble_eq_true rfl) ?_
      rcases it_e hf with ⟨c11, hf⟩ | ⟨c11, hf⟩
      · refine e_if_ne (pc := 25) (tgt := 34) C dX12_trainClause_25 (by decide) (fun q => absurd c11 q) (fun _ => ?_)
        obtain ⟨x12, ex12, hf⟩ := nn_e hf
        refine e_iinc (pc := 28) (v := x12) (lv2 := [(3, .int x12), (0, .ref M), (1, .int v1), (2, .int v2)]) C hm dX12_trainClause_28 3 rfl (by rw [ex12]; rfl) (by decide) rfl ?_
        refine e_goto (pc := 31) (tgt := 11) C dX12_trainClause_31 (by decide) ?_
        refine e_lv (lv2 := [(0, .ref M), (1, .int v1), (2, .int v2), (3, .int x12)]) [1, 2, 3, 0] rfl ?_
        exact ih_11 x12 w8 hf
      · refine e_if_ne (pc := 25) (tgt := 34) C dX12_trainClause_25 (by decide) (fun _ => ?_) (fun q => absurd q c11)
        exact hK_34 v3 w8 hf
set_option maxHeartbeats 4000000 in
set_option maxRecDepth 100000 in
theorem pt_X12_trainClause {G : GG} {l : Launch} {M : Nat} {h : AH} (hI : MI h M) {v1 : Int32} {w : MS} {y : MS} (hf : p_X12_trainClause G v1 w = some y) : Ct G l yX12_trainClause cX12_trainClause 4 none 6 136 0 0 [.ref M, .int v1] (mh h M w) (none, mh h M y) := by
  refine ct_of (by decide) (Nat.le_of_ble_eq_true rfl) ?_
  intro p e s m args below meth c C hm hr hin
  have C : Cx G cX12_trainClause RX12 p s m args meth c := C
  refine e_lv (lv2 := [(0, .ref M), (1, .int v1)]) [0, 1] rfl ?_
  unfold p_X12_trainClause at hf
  refine e_aload_n (pc := 0) C dX12_trainClause_0 0 rfl rfl ?_
  obtain ⟨w1, y2, hf⟩ := ob_e hf
  refine e_callVv (pc := 1) (st := []) 12 C (pt_X12_blanks hI y2) dX12_trainClause_1 (by decide) hI.1 g1686 g1688 g59 g157 g1689 hd_X12_blanks rfl ⟨Nat.le_of_ble_eq_true rfl, Nat.le_of_ble_eq_true rfl⟩ ⟨Nat.le_of_ble_eq_true rfl, Nat.le_of_ble_eq_true rfl⟩ rfl (Nat.le_of_ble_eq_true rfl) ?_
  refine e_aload_n (pc := 4) C dX12_trainClause_4 0 rfl rfl ?_
  refine q_geti (pc := 5) 33 hI C dX12_trainClause_5 (by decide) g1434 rfl ?_
  obtain ⟨x3, ex3, hf⟩ := nn_e hf
  refine e_topi ex3 ?_
  refine e_istore_n (pc := 8) (lv2 := [(2, .int x3), (0, .ref M), (1, .int v1)]) C hm dX12_trainClause_8 rfl (by decide) rfl ?_
  refine e_iconst (v := (0 : Int32)) (pc := 9) C dX12_trainClause_9 (by decide) ?_
  refine e_istore_n (pc := 10) (lv2 := [(3, .int (0 : Int32)), (2, .int x3), (0, .ref M), (1, .int v1)]) C hm dX12_trainClause_10 rfl (by decide) rfl ?_
  refine e_lv (lv2 := [(0, .ref M), (1, .int v1), (2, .int x3), (3, .int (0 : Int32))]) [2, 3, 1, 0] rfl ?_
  refine ep_X12_trainClause_11 hI C hm hr hin (fun v3_34 h_34 hf => ?_) bN (0 : Int32) w1 hf
  refine e_iload_n (pc := 34) C dX12_trainClause_34 3 rfl rfl ?_
  refine e_bipush (v := (7 : Int32)) (pc := 35) C dX12_trainClause_35 (by decide) ?_
  rcases it_e hf with ⟨c13, hf⟩ | ⟨c13, hf⟩
  · refine e_icmp_ne (pc := 37) (tgt := 47) C dX12_trainClause_37 (by decide) (fun q => absurd c13 q) (fun _ => ?_)
    refine e_aload_n (pc := 40) C dX12_trainClause_40 0 rfl rfl ?_
    refine e_iconst (v := (0 : Int32)) (pc := 41) C dX12_trainClause_41 (by decide) ?_
    refine e_iload_n (pc := 42) C dX12_trainClause_42 2 rfl rfl ?_
    obtain ⟨w14, y15, hf⟩ := ob_e hf
    refine e_callVv (pc := 43) (st := []) 12 C (pt_X12_fails hI y15) dX12_trainClause_43 (by decide) hI.1 g1710 g1712 g62 g157 g1713 hd_X12_fails rfl ⟨Nat.le_of_ble_eq_true rfl, Nat.le_of_ble_eq_true rfl⟩ ⟨Nat.le_of_ble_eq_true rfl, Nat.le_of_ble_eq_true rfl⟩ rfl (Nat.le_of_ble_eq_true rfl) ?_
    obtain rfl := so_e hf
    exact e_vret (pc := 46) C hr dX12_trainClause_46 (Nat.le_of_ble_eq_true rfl) (Nat.le_of_ble_eq_true rfl)
  · refine e_icmp_ne (pc := 37) (tgt := 47) C dX12_trainClause_37 (by decide) (fun _ => ?_) (fun q => absurd q c13)
    refine e_aload_n (pc := 47) C dX12_trainClause_47 0 rfl rfl ?_
    refine e_iload_n (pc := 48) C dX12_trainClause_48 3 rfl rfl ?_
    refine e_iload_n (pc := 49) C dX12_trainClause_49 1 rfl rfl ?_
    obtain ⟨r18, w16, y17, hf⟩ := cw_e hf
    refine e_callVi (pc := 50) (st := []) 12 C (pt_X12_isFull hI y17) dX12_trainClause_50 (by decide) hI.1 g1714 g1716 g63 g157 g1717 hd_X12_isFull rfl ⟨Nat.le_of_ble_eq_true rfl, Nat.le_of_ble_eq_true rfl⟩ ⟨Nat.le_of_ble_eq_true rfl, Nat.le_of_ble_eq_true rfl⟩ rfl (Nat.le_of_ble_eq_true rfl) ?_
    rcases it_e hf with ⟨c19, hf⟩ | ⟨c19, hf⟩
    · refine e_if_eq (pc := 53) (tgt := 63) C dX12_trainClause_53 (by decide) (fun _ => ?_) (fun q => absurd c19 q)
      refine e_aload_n (pc := 63) C dX12_trainClause_63 0 rfl rfl ?_
      refine e_dup (pc := 64) C dX12_trainClause_64 rfl ?_
      refine q_geti (pc := 65) 33 hI C dX12_trainClause_65 (by decide) g1434 rfl ?_
      refine e_iload_n (pc := 68) C dX12_trainClause_68 3 rfl rfl ?_
      obtain ⟨r22, w20, y21, hf⟩ := cw_e hf
      refine e_callSi (pc := 69) (st := [.int (w16.1 0 33), .ref M]) C (pt_X12_trainWord hI y21) dX12_trainClause_69 g1694 g1695 g157 g1696 hd_X12_trainWord rfl ⟨Nat.le_of_ble_eq_true rfl, Nat.le_of_ble_eq_true rfl⟩ ⟨Nat.le_of_ble_eq_true rfl, Nat.le_of_ble_eq_true rfl⟩ rfl (Nat.le_of_ble_eq_true rfl) ?_
      obtain ⟨r25, w23, y24, hf⟩ := cw_e hf
      refine e_callK (pc := 72) (st := [.int (w16.1 0 33), .ref M]) (sq_J0_length_8abf5 (pf_J0_length_8abf5 (h := h) (M := M) y24)) C (ct_J0_length_8abf5 (pf_J0_length_8abf5 (h := h) (M := M) y24)) dX12_trainClause_72 g1708 g663 g664 g158 g665 hd_J0_length_8abf5 rfl ⟨Nat.le_of_ble_eq_true rfl, Nat.le_of_ble_eq_true rfl⟩ ⟨Nat.le_of_ble_eq_true rfl, Nat.le_of_ble_eq_true rfl⟩ rfl (Nat.le_of_ble_eq_true rfl) ?_
      refine e_iadd (pc := 75) C dX12_trainClause_75 ?_
      refine q_puti (pc := 76) 33 hI C dX12_trainClause_76 (by decide) g1434 rfl rfl rfl rfl ?_
      obtain ⟨w26, ew26, hf⟩ := nn_e hf
      refine q_hp ew26 ?_
      refine e_aload_n (pc := 79) C dX12_trainClause_79 0 rfl rfl ?_
      refine e_iload_n (pc := 80) C dX12_trainClause_80 3 rfl rfl ?_
      obtain ⟨w27, y28, hf⟩ := ob_e hf
      refine e_callVv (pc := 81) (st := []) 12 C (pt_X12_trainPart hI y28) dX12_trainClause_81 (by decide) hI.1 g1718 g1720 g64 g157 g1721 hd_X12_trainPart rfl ⟨Nat.le_of_ble_eq_true rfl, Nat.le_of_ble_eq_true rfl⟩ ⟨Nat.le_of_ble_eq_true rfl, Nat.le_of_ble_eq_true rfl⟩ rfl (Nat.le_of_ble_eq_true rfl) ?_
      obtain rfl := so_e hf
      exact e_vret (pc := 84) C hr dX12_trainClause_84 (Nat.le_of_ble_eq_true rfl) (Nat.le_of_ble_eq_true rfl)
    · refine e_if_eq (pc := 53) (tgt := 63) C dX12_trainClause_53 (by decide) (fun q => absurd q c19) (fun _ => ?_)
      refine e_aload_n (pc := 56) C dX12_trainClause_56 0 rfl rfl ?_
      refine e_iconst (v := (4 : Int32)) (pc := 57) C dX12_trainClause_57 (by decide) ?_
      refine e_iload_n (pc := 58) C dX12_trainClause_58 2 rfl rfl ?_
      obtain ⟨w29, y30, hf⟩ := ob_e hf
      refine e_callVv (pc := 59) (st := []) 12 C (pt_X12_fails hI y30) dX12_trainClause_59 (by decide) hI.1 g1710 g1712 g62 g157 g1713 hd_X12_fails rfl ⟨Nat.le_of_ble_eq_true rfl, Nat.le_of_ble_eq_true rfl⟩ ⟨Nat.le_of_ble_eq_true rfl, Nat.le_of_ble_eq_true rfl⟩ rfl (Nat.le_of_ble_eq_true rfl) ?_
      obtain rfl := so_e hf
      exact e_vret (pc := 62) C hr dX12_trainClause_62 (Nat.le_of_ble_eq_true rfl) (Nat.le_of_ble_eq_true rfl)
theorem dX12_copies_0 : decode cX12_copies 0 = .ok (.iconst 0, 1) := by decide +kernel
theorem dX12_copies_1 : decode cX12_copies 1 = .ok (.istore_n 2, 1) := by decide +kernel
theorem dX12_copies_2 : decode cX12_copies 2 = .ok (.iload_n 2, 1) := by decide +kernel
theorem dX12_copies_3 : decode cX12_copies 3 = .ok (.aload_n 0, 1) := by decide +kernel
theorem dX12_copies_4 : decode cX12_copies 4 = .ok (.arraylength, 1) := by decide +kernel
theorem dX12_copies_5 : decode cX12_copies 5 = .ok (.if_icmp .ge 15, 3) := by decide +kernel
theorem dX12_copies_8 : decode cX12_copies 8 = .ok (.aload_n 1, 1) := by decide +kernel
theorem dX12_copies_9 : decode cX12_copies 9 = .ok (.iload_n 2, 1) := by decide +kernel
theorem dX12_copies_10 : decode cX12_copies 10 = .ok (.aload_n 0, 1) := by decide +kernel
theorem dX12_copies_11 : decode cX12_copies 11 = .ok (.iload_n 2, 1) := by decide +kernel
theorem dX12_copies_12 : decode cX12_copies 12 = .ok (.iaload, 1) := by decide +kernel
theorem dX12_copies_13 : decode cX12_copies 13 = .ok (.iastore, 1) := by decide +kernel
theorem dX12_copies_14 : decode cX12_copies 14 = .ok (.iinc 2 1, 3) := by decide +kernel
theorem dX12_copies_17 : decode cX12_copies 17 = .ok (.goto (-15), 3) := by decide +kernel
theorem dX12_copies_20 : decode cX12_copies 20 = .ok (.return_, 1) := by decide +kernel
def P_X12_copies_2 (G : GG) (v0 : Nat) (v1 : Nat) (self_2 : Int32 → MS → Option (MS)) (v2 : Int32) (w : MS) : Option (MS) :=
ck (mok v0 = true) <|
if (nI (mln v0)) ≤ v2 then (some w) else
ck (mok v0 = true) <|
ck (ixn (mln v0) v2 = true) <|
ck (mok v1 = true) <|
ck (ixn (mln v1) v2 = true) <|
nn (w_si w v1 v2.toNatClampNeg (w.1 v0 v2.toNatClampNeg)) fun w7 =>
nn (v2 + (1 : Int32)) fun x8 =>
self_2 x8 w7
def p_X12_copies (G : GG) (v0 : Nat) (v1 : Nat) (w : MS) : Option (MS) :=
lw1 (P_X12_copies_2 G v0 v1 ) bN (0 : Int32) w
set_option maxHeartbeats 4000000 in
set_option maxRecDepth 100000 in
theorem ep_X12_copies_2 {G : GG} {p : Program} {l : Launch} {e : Env} {s : State} {m : MethodId} {args : Array Value} {below : List Frame} {meth : Method} {c : Code} {y : MS} {M : Nat} {h : AH} (hI : MI h M) (C : Cx G cX12_copies RX12 p s m args meth c) (hm : c.maxLocals = 3) (hr : meth.sig.returnType = none) (hin : meth.name = yX12_copies.name) {v0 : Nat} {v1 : Nat}  :
    ∀ (n : Nat) (v2 : Int32) (w : MS), lw1 (P_X12_copies_2 G v0 v1) n v2 w = some y → EE G p l e ({ frames := 0, cells := 0, slots := 0, locals := 0 } : Room) s m args below meth c (none, mh h M y) 0 0 2 [(0, .ref (M + mofs v0)), (1, .ref (M + mofs v1)), (2, .int v2)] [] (mh h M w) 0 0 := by
  intro n
  induction n with
  | zero => intro v2 w hf; exact (no_e hf).elim
  | succ n ih_2 =>
    intro v2 w hf
    have hf : P_X12_copies_2 G v0 v1 (lw1 (P_X12_copies_2 G v0 v1) n) v2 w = some y := hf
    generalize lw1 (P_X12_copies_2 G v0 v1) n = self_2 at hf ih_2
    unfold P_X12_copies_2 at hf
    refine e_iload_n (pc := 2) C dX12_copies_2 2 rfl rfl ?_
    refine e_aload_n (pc := 3) C dX12_copies_3 0 rfl rfl ?_
    obtain ⟨q1, hf⟩ := ck_e hf
    refine q_alen (pc := 4) (k := v0) hI C dX12_copies_4 q1 ?_
    rcases it_e hf with ⟨c2, hf⟩ | ⟨c2, hf⟩
    · refine e_icmp_ge (pc := 5) (tgt := 20) C dX12_copies_5 (by decide) (fun _ => ?_) (fun q => absurd c2 q)
      obtain rfl := so_e hf
      exact e_vret (pc := 20) C hr dX12_copies_20 (Nat.le_of_ble_eq_true rfl) (Nat.le_of_ble_eq_true rfl)
    · refine e_icmp_ge (pc := 5) (tgt := 20) C dX12_copies_5 (by decide) (fun q => absurd q c2) (fun _ => ?_)
      refine e_aload_n (pc := 8) C dX12_copies_8 1 rfl rfl ?_
      refine e_iload_n (pc := 9) C dX12_copies_9 2 rfl rfl ?_
      refine e_aload_n (pc := 10) C dX12_copies_10 0 rfl rfl ?_
      refine e_iload_n (pc := 11) C dX12_copies_11 2 rfl rfl ?_
      obtain ⟨q4, hf⟩ := ck_e hf
      obtain ⟨q3, hf⟩ := ck_e hf
      refine q_iald (pc := 12) (k := v0) hI C dX12_copies_12 q4 (ixn_e q3) ?_
      obtain ⟨q6, hf⟩ := ck_e hf
      obtain ⟨q5, hf⟩ := ck_e hf
      refine q_iast (pc := 13) (k := v1) hI C dX12_copies_13 q6 (ixn_e q5) ?_
      obtain ⟨w7, ew7, hf⟩ := nn_e hf
      refine q_hp ew7 ?_
      obtain ⟨x8, ex8, hf⟩ := nn_e hf
      refine e_iinc (pc := 14) (v := x8) (lv2 := [(2, .int x8), (0, .ref (M + mofs v0)), (1, .ref (M + mofs v1))]) C hm dX12_copies_14 2 rfl (by rw [ex8]; rfl) (by decide) rfl ?_
      refine e_goto (pc := 17) (tgt := 2) C dX12_copies_17 (by decide) ?_
      refine e_lv (lv2 := [(0, .ref (M + mofs v0)), (1, .ref (M + mofs v1)), (2, .int x8)]) [1, 2, 0] rfl ?_
      exact ih_2 x8 w7 hf
set_option maxHeartbeats 4000000 in
set_option maxRecDepth 100000 in
theorem pt_X12_copies {G : GG} {l : Launch} {M : Nat} {h : AH} (hI : MI h M) {v0 : Nat} {v1 : Nat} {w : MS} {y : MS} (hf : p_X12_copies G v0 v1 w = some y) : Ct G l yX12_copies cX12_copies 3 none 0 0 0 0 [.ref (M + mofs v0), .ref (M + mofs v1)] (mh h M w) (none, mh h M y) := by
  refine ct_of (by decide) (Nat.le_of_ble_eq_true rfl) ?_
  intro p e s m args below meth c C hm hr hin
  have C : Cx G cX12_copies RX12 p s m args meth c := C
  refine e_lv (lv2 := [(0, .ref (M + mofs v0)), (1, .ref (M + mofs v1))]) [0, 1] rfl ?_
  unfold p_X12_copies at hf
  refine e_iconst (v := (0 : Int32)) (pc := 0) C dX12_copies_0 (by decide) ?_
  refine e_istore_n (pc := 1) (lv2 := [(2, .int (0 : Int32)), (0, .ref (M + mofs v0)), (1, .ref (M + mofs v1))]) C hm dX12_copies_1 rfl (by decide) rfl ?_
  refine e_lv (lv2 := [(0, .ref (M + mofs v0)), (1, .ref (M + mofs v1)), (2, .int (0 : Int32))]) [1, 2, 0] rfl ?_
  exact ep_X12_copies_2 hI C hm hr hin bN (0 : Int32) w hf
theorem dX12_goesOn_0 : decode cX12_goesOn 0 = .ok (.aload_n 0, 1) := by decide +kernel
theorem dX12_goesOn_1 : decode cX12_goesOn 1 = .ok (.invokevirtual 266, 3) := by decide +kernel
theorem dX12_goesOn_4 : decode cX12_goesOn 4 = .ok (.aload_n 0, 1) := by decide +kernel
theorem dX12_goesOn_5 : decode cX12_goesOn 5 = .ok (.getfield 243, 3) := by decide +kernel
theorem dX12_goesOn_8 : decode cX12_goesOn 8 = .ok (.ifCond .ne 32, 3) := by decide +kernel
theorem dX12_goesOn_11 : decode cX12_goesOn 11 = .ok (.aload_n 0, 1) := by decide +kernel
theorem dX12_goesOn_12 : decode cX12_goesOn 12 = .ok (.getfield 246, 3) := by decide +kernel
theorem dX12_goesOn_15 : decode cX12_goesOn 15 = .ok (.aload_n 0, 1) := by decide +kernel
theorem dX12_goesOn_16 : decode cX12_goesOn 16 = .ok (.getfield 210, 3) := by decide +kernel
theorem dX12_goesOn_19 : decode cX12_goesOn 19 = .ok (.if_icmp .ge 21, 3) := by decide +kernel
theorem dX12_goesOn_22 : decode cX12_goesOn 22 = .ok (.aload_n 0, 1) := by decide +kernel
theorem dX12_goesOn_23 : decode cX12_goesOn 23 = .ok (.invokevirtual 249, 3) := by decide +kernel
theorem dX12_goesOn_26 : decode cX12_goesOn 26 = .ok (.bipush 59, 2) := by decide +kernel
theorem dX12_goesOn_28 : decode cX12_goesOn 28 = .ok (.if_icmp .eq 12, 3) := by decide +kernel
theorem dX12_goesOn_31 : decode cX12_goesOn 31 = .ok (.aload_n 0, 1) := by decide +kernel
theorem dX12_goesOn_32 : decode cX12_goesOn 32 = .ok (.iconst 0, 1) := by decide +kernel
theorem dX12_goesOn_33 : decode cX12_goesOn 33 = .ok (.aload_n 0, 1) := by decide +kernel
theorem dX12_goesOn_34 : decode cX12_goesOn 34 = .ok (.getfield 246, 3) := by decide +kernel
theorem dX12_goesOn_37 : decode cX12_goesOn 37 = .ok (.invokevirtual 282, 3) := by decide +kernel
theorem dX12_goesOn_40 : decode cX12_goesOn 40 = .ok (.aload_n 0, 1) := by decide +kernel
theorem dX12_goesOn_41 : decode cX12_goesOn 41 = .ok (.getfield 243, 3) := by decide +kernel
theorem dX12_goesOn_44 : decode cX12_goesOn 44 = .ok (.ifCond .ne 18, 3) := by decide +kernel
theorem dX12_goesOn_47 : decode cX12_goesOn 47 = .ok (.aload_n 0, 1) := by decide +kernel
theorem dX12_goesOn_48 : decode cX12_goesOn 48 = .ok (.getfield 246, 3) := by decide +kernel
theorem dX12_goesOn_51 : decode cX12_goesOn 51 = .ok (.aload_n 0, 1) := by decide +kernel
theorem dX12_goesOn_52 : decode cX12_goesOn 52 = .ok (.getfield 210, 3) := by decide +kernel
theorem dX12_goesOn_55 : decode cX12_goesOn 55 = .ok (.if_icmp .ge 7, 3) := by decide +kernel
theorem dX12_goesOn_58 : decode cX12_goesOn 58 = .ok (.iconst 1, 1) := by decide +kernel
theorem dX12_goesOn_59 : decode cX12_goesOn 59 = .ok (.goto 4, 3) := by decide +kernel
theorem dX12_goesOn_62 : decode cX12_goesOn 62 = .ok (.iconst 0, 1) := by decide +kernel
theorem dX12_goesOn_63 : decode cX12_goesOn 63 = .ok (.istore_n 1, 1) := by decide +kernel
theorem dX12_goesOn_64 : decode cX12_goesOn 64 = .ok (.aload_n 0, 1) := by decide +kernel
theorem dX12_goesOn_65 : decode cX12_goesOn 65 = .ok (.dup, 1) := by decide +kernel
theorem dX12_goesOn_66 : decode cX12_goesOn 66 = .ok (.getfield 246, 3) := by decide +kernel
theorem dX12_goesOn_69 : decode cX12_goesOn 69 = .ok (.iconst 1, 1) := by decide +kernel
theorem dX12_goesOn_70 : decode cX12_goesOn 70 = .ok (.iadd, 1) := by decide +kernel
theorem dX12_goesOn_71 : decode cX12_goesOn 71 = .ok (.putfield 246, 3) := by decide +kernel
theorem dX12_goesOn_74 : decode cX12_goesOn 74 = .ok (.iload_n 1, 1) := by decide +kernel
theorem dX12_goesOn_75 : decode cX12_goesOn 75 = .ok (.ireturn, 1) := by decide +kernel
def p_X12_goesOn (G : GG) (w : MS) : Option (Int32 × MS) :=
ob (p_X12_blanks G w) fun w1 =>
nn (fun (h_40 : MS) => (nn (fun (s0_63 : Int32) => (nn (w_si h_40 0 33 ((h_40.1 0 33) + (1 : Int32))) fun w3 =>
ck (s0_63 &&& 1 = s0_63) <|
some (s0_63, w3))) fun j_63 =>
nn (fun (uu_62 : Unit) => (j_63 (0 : Int32))) fun j_62 =>
if (h_40.1 0 34) = 0 then (if (h_40.1 0 32) ≤ (h_40.1 0 33) then (j_62 ()) else
j_63 (1 : Int32)) else
j_62 ())) fun j_40 =>
if (w1.1 0 34) = 0 then (if (w1.1 0 32) ≤ (w1.1 0 33) then (j_40 w1) else
cw (p_X12_sign G w1) fun r11 w9 =>
if r11 = (59 : Int32) then (j_40 w9) else
ob (p_X12_fails G (0 : Int32) (w9.1 0 33) w9) fun w13 =>
j_40 w13) else
j_40 w1
set_option maxHeartbeats 4000000 in
set_option maxRecDepth 100000 in
theorem pt_X12_goesOn {G : GG} {l : Launch} {M : Nat} {h : AH} (hI : MI h M) {w : MS} {y : Int32 × MS} (hf : p_X12_goesOn G w = some y) : Ct G l yX12_goesOn cX12_goesOn 2 (some .boolean) 2 40 0 0 [.ref M] (mh h M w) (some (.int y.1), mh h M y.2) := by
  refine ct_of (by decide) (Nat.le_of_ble_eq_true rfl) ?_
  intro p e s m args below meth c C hm hr hin
  have C : Cx G cX12_goesOn RX12 p s m args meth c := C
  refine e_lv (lv2 := [(0, .ref M)]) [0] rfl ?_
  unfold p_X12_goesOn at hf
  refine e_aload_n (pc := 0) C dX12_goesOn_0 0 rfl rfl ?_
  obtain ⟨w1, y2, hf⟩ := ob_e hf
  refine e_callVv (pc := 1) (st := []) 12 C (pt_X12_blanks hI y2) dX12_goesOn_1 (by decide) hI.1 g1686 g1688 g59 g157 g1689 hd_X12_blanks rfl ⟨Nat.le_of_ble_eq_true rfl, Nat.le_of_ble_eq_true rfl⟩ ⟨Nat.le_of_ble_eq_true rfl, Nat.le_of_ble_eq_true rfl⟩ rfl (Nat.le_of_ble_eq_true rfl) ?_
  refine e_aload_n (pc := 4) C dX12_goesOn_4 0 rfl rfl ?_
  refine q_geti (pc := 5) 34 hI C dX12_goesOn_5 (by decide) g1435 rfl ?_
  obtain ⟨j_40, ej_40, hf⟩ := nn_e hf
  have W_40 : ∀ (h_40 : MS), j_40 h_40 = some y → EE G p l e ({ frames := 2, cells := 0, slots := 0, locals := 40 } : Room) s m args below meth c (some (.int y.1), mh h M y.2) 0 0 40 [(0, .ref M)] [] (mh h M h_40) 0 0 := by
    intro h_40 hf
    rw [ej_40] at hf
    refine e_aload_n (pc := 40) C dX12_goesOn_40 0 rfl rfl ?_
    refine q_geti (pc := 41) 34 hI C dX12_goesOn_41 (by decide) g1435 rfl ?_
    obtain ⟨j_63, ej_63, hf⟩ := nn_e hf
    have W_63 : ∀ (s0_63 : Int32), j_63 s0_63 = some y → EE G p l e ({ frames := 2, cells := 0, slots := 0, locals := 40 } : Room) s m args below meth c (some (.int y.1), mh h M y.2) 0 0 63 [(0, .ref M)] [.int s0_63] (mh h M h_40) 0 0 := by
      intro s0_63 hf
      rw [ej_63] at hf
      refine e_istore_n (pc := 63) (lv2 := [(1, .int s0_63), (0, .ref M)]) C hm dX12_goesOn_63 rfl (by decide) rfl ?_
      refine e_aload_n (pc := 64) C dX12_goesOn_64 1 rfl rfl ?_
      refine e_dup (pc := 65) C dX12_goesOn_65 rfl ?_
      refine q_geti (pc := 66) 33 hI C dX12_goesOn_66 (by decide) g1434 rfl ?_
      refine e_iconst (v := (1 : Int32)) (pc := 69) C dX12_goesOn_69 (by decide) ?_
      refine e_iadd (pc := 70) C dX12_goesOn_70 ?_
      refine q_puti (pc := 71) 33 hI C dX12_goesOn_71 (by decide) g1434 rfl rfl rfl rfl ?_
      obtain ⟨w3, ew3, hf⟩ := nn_e hf
      refine q_hp ew3 ?_
      refine e_iload_n (pc := 74) C dX12_goesOn_74 0 rfl rfl ?_
      obtain ⟨q4, hf⟩ := ck_e hf
      obtain rfl := so_e hf
      exact e_zret (pc := 75) (v := s0_63) C hr (nz_ok q4) dX12_goesOn_75 (Nat.le_of_ble_eq_true rfl) (Nat.le_of_ble_eq_true rfl)
    obtain ⟨j_62, ej_62, hf⟩ := nn_e hf
    have W_62 : ∀ (uu_62 : Unit), j_62 uu_62 = some y → EE G p l e ({ frames := 2, cells := 0, slots := 0, locals := 40 } : Room) s m args below meth c (some (.int y.1), mh h M y.2) 0 0 62 [(0, .ref M)] [] (mh h M h_40) 0 0 := by
      intro uu_62 hf
      rw [ej_62] at hf
      refine e_iconst (v := (0 : Int32)) (pc := 62) C dX12_goesOn_62 (by decide) ?_
      exact W_63 (0 : Int32) hf
    rcases it_e hf with ⟨c5, hf⟩ | ⟨c5, hf⟩
    · refine e_if_ne (pc := 44) (tgt := 62) C dX12_goesOn_44 (by decide) (fun q => absurd c5 q) (fun _ => ?_)
      refine e_aload_n (pc := 47) C dX12_goesOn_47 0 rfl rfl ?_
      refine q_geti (pc := 48) 33 hI C dX12_goesOn_48 (by decide) g1434 rfl ?_
      refine e_aload_n (pc := 51) C dX12_goesOn_51 0 rfl rfl ?_
      refine q_geti (pc := 52) 32 hI C dX12_goesOn_52 (by decide) g1433 rfl ?_
      rcases it_e hf with ⟨c6, hf⟩ | ⟨c6, hf⟩
      · refine e_icmp_ge (pc := 55) (tgt := 62) C dX12_goesOn_55 (by decide) (fun _ => ?_) (fun q => absurd c6 q)
        exact W_62 () hf
      · refine e_icmp_ge (pc := 55) (tgt := 62) C dX12_goesOn_55 (by decide) (fun q => absurd q c6) (fun _ => ?_)
        refine e_iconst (v := (1 : Int32)) (pc := 58) C dX12_goesOn_58 (by decide) ?_
        refine e_goto (pc := 59) (tgt := 63) C dX12_goesOn_59 (by decide) ?_
        exact W_63 (1 : Int32) hf
    · refine e_if_ne (pc := 44) (tgt := 62) C dX12_goesOn_44 (by decide) (fun _ => ?_) (fun q => absurd q c5)
      exact W_62 () hf
  rcases it_e hf with ⟨c7, hf⟩ | ⟨c7, hf⟩
  · refine e_if_ne (pc := 8) (tgt := 40) C dX12_goesOn_8 (by decide) (fun q => absurd c7 q) (fun _ => ?_)
    refine e_aload_n (pc := 11) C dX12_goesOn_11 0 rfl rfl ?_
    refine q_geti (pc := 12) 33 hI C dX12_goesOn_12 (by decide) g1434 rfl ?_
    refine e_aload_n (pc := 15) C dX12_goesOn_15 0 rfl rfl ?_
    refine q_geti (pc := 16) 32 hI C dX12_goesOn_16 (by decide) g1433 rfl ?_
    rcases it_e hf with ⟨c8, hf⟩ | ⟨c8, hf⟩
    · refine e_icmp_ge (pc := 19) (tgt := 40) C dX12_goesOn_19 (by decide) (fun _ => ?_) (fun q => absurd c8 q)
      exact W_40 w1 hf
    · refine e_icmp_ge (pc := 19) (tgt := 40) C dX12_goesOn_19 (by decide) (fun q => absurd q c8) (fun _ => ?_)
      refine e_aload_n (pc := 22) C dX12_goesOn_22 0 rfl rfl ?_
      obtain ⟨r11, w9, y10, hf⟩ := cw_e hf
      refine e_callVi (pc := 23) (st := []) 12 C (pt_X12_sign hI y10) dX12_goesOn_23 (by decide) hI.1 g1690 g1692 g60 g157 g1693 hd_X12_sign rfl ⟨Nat.le_of_ble_eq_true rfl, Nat.le_of_ble_eq_true rfl⟩ ⟨Nat.le_of_ble_eq_true rfl, Nat.le_of_ble_eq_true rfl⟩ rfl (Nat.le_of_ble_eq_true rfl) ?_
      refine e_bipush (v := (59 : Int32)) (pc := 26) C dX12_goesOn_26 (by decide) ?_
      rcases it_e hf with ⟨c12, hf⟩ | ⟨c12, hf⟩
      · refine e_icmp_eq (pc := 28) (tgt := 40) C dX12_goesOn_28 (by decide) (fun _ => ?_) (fun q => absurd c12 q)
        exact W_40 w9 hf
      · refine e_icmp_eq (pc := 28) (tgt := 40) C dX12_goesOn_28 (by decide) (fun q => absurd q c12) (fun _ => ?_)
        refine e_aload_n (pc := 31) C dX12_goesOn_31 0 rfl rfl ?_
        refine e_iconst (v := (0 : Int32)) (pc := 32) C dX12_goesOn_32 (by decide) ?_
        refine e_aload_n (pc := 33) C dX12_goesOn_33 0 rfl rfl ?_
        refine q_geti (pc := 34) 33 hI C dX12_goesOn_34 (by decide) g1434 rfl ?_
        obtain ⟨w13, y14, hf⟩ := ob_e hf
        refine e_callVv (pc := 37) (st := []) 12 C (pt_X12_fails hI y14) dX12_goesOn_37 (by decide) hI.1 g1710 g1712 g62 g157 g1713 hd_X12_fails rfl ⟨Nat.le_of_ble_eq_true rfl, Nat.le_of_ble_eq_true rfl⟩ ⟨Nat.le_of_ble_eq_true rfl, Nat.le_of_ble_eq_true rfl⟩ rfl (Nat.le_of_ble_eq_true rfl) ?_
        exact W_40 w13 hf
  · refine e_if_ne (pc := 8) (tgt := 40) C dX12_goesOn_8 (by decide) (fun _ => ?_) (fun q => absurd q c7)
    exact W_40 w1 hf
theorem dX12_starts_0 : decode cX12_starts 0 = .ok (.aload_n 0, 1) := by decide +kernel
theorem dX12_starts_1 : decode cX12_starts 1 = .ok (.iconst 0, 1) := by decide +kernel
theorem dX12_starts_2 : decode cX12_starts 2 = .ok (.putfield 246, 3) := by decide +kernel
theorem dX12_starts_5 : decode cX12_starts 5 = .ok (.aload_n 0, 1) := by decide +kernel
theorem dX12_starts_6 : decode cX12_starts 6 = .ok (.iconst 0, 1) := by decide +kernel
theorem dX12_starts_7 : decode cX12_starts 7 = .ok (.putfield 243, 3) := by decide +kernel
theorem dX12_starts_10 : decode cX12_starts 10 = .ok (.aload_n 0, 1) := by decide +kernel
theorem dX12_starts_11 : decode cX12_starts 11 = .ok (.iconst 0, 1) := by decide +kernel
theorem dX12_starts_12 : decode cX12_starts 12 = .ok (.putfield 276, 3) := by decide +kernel
theorem dX12_starts_15 : decode cX12_starts 15 = .ok (.aload_n 0, 1) := by decide +kernel
theorem dX12_starts_16 : decode cX12_starts 16 = .ok (.iconst 0, 1) := by decide +kernel
theorem dX12_starts_17 : decode cX12_starts 17 = .ok (.putfield 317, 3) := by decide +kernel
theorem dX12_starts_20 : decode cX12_starts 20 = .ok (.aload_n 0, 1) := by decide +kernel
theorem dX12_starts_21 : decode cX12_starts 21 = .ok (.iconst 0, 1) := by decide +kernel
theorem dX12_starts_22 : decode cX12_starts 22 = .ok (.putfield 279, 3) := by decide +kernel
theorem dX12_starts_25 : decode cX12_starts 25 = .ok (.return_, 1) := by decide +kernel
def p_X12_starts (G : GG) (w : MS) : Option (MS) :=
nn (w_si w 0 33 (0 : Int32)) fun w1 =>
nn (w_si w1 0 34 (0 : Int32)) fun w2 =>
nn (w_si w2 0 37 (0 : Int32)) fun w3 =>
nn (w_si w3 0 38 (0 : Int32)) fun w4 =>
nn (w_si w4 0 39 (0 : Int32)) fun w5 =>
some w5
set_option maxHeartbeats 4000000 in
set_option maxRecDepth 100000 in
theorem pt_X12_starts {G : GG} {l : Launch} {M : Nat} {h : AH} (hI : MI h M) {w : MS} {y : MS} (hf : p_X12_starts G w = some y) : Ct G l yX12_starts cX12_starts 1 none 0 0 0 0 [.ref M] (mh h M w) (none, mh h M y) := by
  refine ct_of (by decide) (Nat.le_of_ble_eq_true rfl) ?_
  intro p e s m args below meth c C hm hr hin
  have C : Cx G cX12_starts RX12 p s m args meth c := C
  refine e_lv (lv2 := [(0, .ref M)]) [0] rfl ?_
  unfold p_X12_starts at hf
  refine e_aload_n (pc := 0) C dX12_starts_0 0 rfl rfl ?_
  refine e_iconst (v := (0 : Int32)) (pc := 1) C dX12_starts_1 (by decide) ?_
  refine q_puti (pc := 2) 33 hI C dX12_starts_2 (by decide) g1434 rfl rfl rfl rfl ?_
  obtain ⟨w1, ew1, hf⟩ := nn_e hf
  refine q_hp ew1 ?_
  refine e_aload_n (pc := 5) C dX12_starts_5 0 rfl rfl ?_
  refine e_iconst (v := (0 : Int32)) (pc := 6) C dX12_starts_6 (by decide) ?_
  refine q_puti (pc := 7) 34 hI C dX12_starts_7 (by decide) g1435 rfl rfl rfl rfl ?_
  obtain ⟨w2, ew2, hf⟩ := nn_e hf
  refine q_hp ew2 ?_
  refine e_aload_n (pc := 10) C dX12_starts_10 0 rfl rfl ?_
  refine e_iconst (v := (0 : Int32)) (pc := 11) C dX12_starts_11 (by decide) ?_
  refine q_puti (pc := 12) 37 hI C dX12_starts_12 (by decide) g1438 rfl rfl rfl rfl ?_
  obtain ⟨w3, ew3, hf⟩ := nn_e hf
  refine q_hp ew3 ?_
  refine e_aload_n (pc := 15) C dX12_starts_15 0 rfl rfl ?_
  refine e_iconst (v := (0 : Int32)) (pc := 16) C dX12_starts_16 (by decide) ?_
  refine q_puti (pc := 17) 38 hI C dX12_starts_17 (by decide) g1439 rfl rfl rfl rfl ?_
  obtain ⟨w4, ew4, hf⟩ := nn_e hf
  refine q_hp ew4 ?_
  refine e_aload_n (pc := 20) C dX12_starts_20 0 rfl rfl ?_
  refine e_iconst (v := (0 : Int32)) (pc := 21) C dX12_starts_21 (by decide) ?_
  refine q_puti (pc := 22) 39 hI C dX12_starts_22 (by decide) g1440 rfl rfl rfl rfl ?_
  obtain ⟨w5, ew5, hf⟩ := nn_e hf
  refine q_hp ew5 ?_
  obtain rfl := so_e hf
  exact e_vret (pc := 25) C hr dX12_starts_25 (Nat.le_of_ble_eq_true rfl) (Nat.le_of_ble_eq_true rfl)
theorem dX12_readsAll_0 : decode cX12_readsAll 0 = .ok (.aload_n 0, 1) := by decide +kernel
theorem dX12_readsAll_1 : decode cX12_readsAll 1 = .ok (.invokevirtual 374, 3) := by decide +kernel
theorem dX12_readsAll_4 : decode cX12_readsAll 4 = .ok (.iconst 0, 1) := by decide +kernel
theorem dX12_readsAll_5 : decode cX12_readsAll 5 = .ok (.istore_n 1, 1) := by decide +kernel
theorem dX12_readsAll_6 : decode cX12_readsAll 6 = .ok (.iload_n 1, 1) := by decide +kernel
theorem dX12_readsAll_7 : decode cX12_readsAll 7 = .ok (.bipush 10, 2) := by decide +kernel
theorem dX12_readsAll_9 : decode cX12_readsAll 9 = .ok (.if_icmp .ge 16, 3) := by decide +kernel
theorem dX12_readsAll_12 : decode cX12_readsAll 12 = .ok (.aload_n 0, 1) := by decide +kernel
theorem dX12_readsAll_13 : decode cX12_readsAll 13 = .ok (.getfield 67, 3) := by decide +kernel
theorem dX12_readsAll_16 : decode cX12_readsAll 16 = .ok (.iload_n 1, 1) := by decide +kernel
theorem dX12_readsAll_17 : decode cX12_readsAll 17 = .ok (.iconst 0, 1) := by decide +kernel
theorem dX12_readsAll_18 : decode cX12_readsAll 18 = .ok (.iastore, 1) := by decide +kernel
theorem dX12_readsAll_19 : decode cX12_readsAll 19 = .ok (.iinc 1 1, 3) := by decide +kernel
theorem dX12_readsAll_22 : decode cX12_readsAll 22 = .ok (.goto (-16), 3) := by decide +kernel
theorem dX12_readsAll_25 : decode cX12_readsAll 25 = .ok (.iconst 0, 1) := by decide +kernel
theorem dX12_readsAll_26 : decode cX12_readsAll 26 = .ok (.istore_n 1, 1) := by decide +kernel
theorem dX12_readsAll_27 : decode cX12_readsAll 27 = .ok (.iconst 1, 1) := by decide +kernel
theorem dX12_readsAll_28 : decode cX12_readsAll 28 = .ok (.istore_n 2, 1) := by decide +kernel
theorem dX12_readsAll_29 : decode cX12_readsAll 29 = .ok (.iload_n 2, 1) := by decide +kernel
theorem dX12_readsAll_30 : decode cX12_readsAll 30 = .ok (.ifCond .eq 19, 3) := by decide +kernel
theorem dX12_readsAll_33 : decode cX12_readsAll 33 = .ok (.aload_n 0, 1) := by decide +kernel
theorem dX12_readsAll_34 : decode cX12_readsAll 34 = .ok (.iload_n 1, 1) := by decide +kernel
theorem dX12_readsAll_35 : decode cX12_readsAll 35 = .ok (.invokevirtual 377, 3) := by decide +kernel
theorem dX12_readsAll_38 : decode cX12_readsAll 38 = .ok (.iinc 1 1, 3) := by decide +kernel
theorem dX12_readsAll_41 : decode cX12_readsAll 41 = .ok (.aload_n 0, 1) := by decide +kernel
theorem dX12_readsAll_42 : decode cX12_readsAll 42 = .ok (.invokevirtual 380, 3) := by decide +kernel
theorem dX12_readsAll_45 : decode cX12_readsAll 45 = .ok (.istore_n 2, 1) := by decide +kernel
theorem dX12_readsAll_46 : decode cX12_readsAll 46 = .ok (.goto (-17), 3) := by decide +kernel
theorem dX12_readsAll_49 : decode cX12_readsAll 49 = .ok (.aload_n 0, 1) := by decide +kernel
theorem dX12_readsAll_50 : decode cX12_readsAll 50 = .ok (.iconst 0, 1) := by decide +kernel
theorem dX12_readsAll_51 : decode cX12_readsAll 51 = .ok (.putfield 210, 3) := by decide +kernel
theorem dX12_readsAll_54 : decode cX12_readsAll 54 = .ok (.return_, 1) := by decide +kernel
def P_X12_readsAll_6 (G : GG) (K_25 : MS → Option (MS)) (self_6 : Int32 → MS → Option (MS)) (v1 : Int32) (w : MS) : Option (MS) :=
if (10 : Int32) ≤ v1 then (K_25 w) else
ck (ixn 10 v1 = true) <|
nn (w_si w 20 v1.toNatClampNeg (0 : Int32)) fun w5 =>
nn (v1 + (1 : Int32)) fun x6 =>
self_6 x6 w5
def P_X12_readsAll_29 (G : GG) (self_29 : Int32 → Int32 → MS → Option (MS)) (v1 : Int32) (v2 : Int32) (w : MS) : Option (MS) :=
if v2 = 0 then (nn (w_si w 0 32 (0 : Int32)) fun w8 =>
some w8) else
ob (p_X12_trainClause G v1 w) fun w9 =>
nn (v1 + (1 : Int32)) fun x11 =>
cw (p_X12_goesOn G w9) fun r14 w12 =>
self_29 x11 r14 w12
def p_X12_readsAll (G : GG) (w : MS) : Option (MS) :=
ob (p_X12_starts G w) fun w1 =>
lw1 (P_X12_readsAll_6 G (fun (h_25 : MS) => (lw2 (P_X12_readsAll_29 G ) bN (0 : Int32) (1 : Int32) h_25))) bN (0 : Int32) w1
set_option maxHeartbeats 4000000 in
set_option maxRecDepth 100000 in
theorem ep_X12_readsAll_6 {G : GG} {p : Program} {l : Launch} {e : Env} {s : State} {m : MethodId} {args : Array Value} {below : List Frame} {meth : Method} {c : Code} {y : MS} {M : Nat} {h : AH} (hI : MI h M) (C : Cx G cX12_readsAll RX12 p s m args meth c) (hm : c.maxLocals = 3) (hr : meth.sig.returnType = none) (hin : meth.name = yX12_readsAll.name) {K_25 : MS → Option (MS)} (hK_25 : ∀ (w : MS), K_25 w = some y → EE G p l e ({ frames := 7, cells := 0, slots := 0, locals := 159 } : Room) s m args below meth c (none, mh h M y) 0 0 25 [(0, .ref M)] [] (mh h M w) 0 0) :
    ∀ (n : Nat) (v1 : Int32) (w : MS), lw1 (P_X12_readsAll_6 G K_25) n v1 w = some y → EE G p l e ({ frames := 7, cells := 0, slots := 0, locals := 159 } : Room) s m args below meth c (none, mh h M y) 0 0 6 [(0, .ref M), (1, .int v1)] [] (mh h M w) 0 0 := by
  intro n
  induction n with
  | zero => intro v1 w hf; exact (no_e hf).elim
  | succ n ih_6 =>
    intro v1 w hf
    have hf : P_X12_readsAll_6 G K_25 (lw1 (P_X12_readsAll_6 G K_25) n) v1 w = some y := hf
    generalize lw1 (P_X12_readsAll_6 G K_25) n = self_6 at hf ih_6
    unfold P_X12_readsAll_6 at hf
    refine e_iload_n (pc := 6) C dX12_readsAll_6 1 rfl rfl ?_
    refine e_bipush (v := (10 : Int32)) (pc := 7) C dX12_readsAll_7 (by decide) ?_
    rcases it_e hf with ⟨c3, hf⟩ | ⟨c3, hf⟩
    · refine e_icmp_ge (pc := 9) (tgt := 25) C dX12_readsAll_9 (by decide) (fun _ => ?_) (fun q => absurd c3 q)
      refine e_lv (lv2 := [(0, .ref M)]) [0] rfl ?_
      exact hK_25 w hf
    · refine e_icmp_ge (pc := 9) (tgt := 25) C dX12_readsAll_9 (by decide) (fun q => absurd q c3) (fun _ => ?_)
      refine e_aload_n (pc := 12) C dX12_readsAll_12 0 rfl rfl ?_
      refine q_getr (pc := 13) 20 hI C dX12_readsAll_13 (by decide) g1421 rfl rfl ?_
      refine e_iload_n (pc := 16) C dX12_readsAll_16 1 rfl rfl ?_
      refine e_iconst (v := (0 : Int32)) (pc := 17) C dX12_readsAll_17 (by decide) ?_
      obtain ⟨q4, hf⟩ := ck_e hf
      refine q_iast (pc := 18) (k := 20) hI C dX12_readsAll_18 rfl (ixn_e q4) ?_
      obtain ⟨w5, ew5, hf⟩ := nn_e hf
      refine q_hp ew5 ?_
      obtain ⟨x6, ex6, hf⟩ := nn_e hf
      refine e_iinc (pc := 19) (v := x6) (lv2 := [(1, .int x6), (0, .ref M)]) C hm dX12_readsAll_19 1 rfl (by rw [ex6]; rfl) (by decide) rfl ?_
      refine e_goto (pc := 22) (tgt := 6) C dX12_readsAll_22 (by decide) ?_
      refine e_lv (lv2 := [(0, .ref M), (1, .int x6)]) [1, 0] rfl ?_
      exact ih_6 x6 w5 hf
set_option maxHeartbeats 4000000 in
set_option maxRecDepth 100000 in
theorem ep_X12_readsAll_29 {G : GG} {p : Program} {l : Launch} {e : Env} {s : State} {m : MethodId} {args : Array Value} {below : List Frame} {meth : Method} {c : Code} {y : MS} {M : Nat} {h : AH} (hI : MI h M) (C : Cx G cX12_readsAll RX12 p s m args meth c) (hm : c.maxLocals = 3) (hr : meth.sig.returnType = none) (hin : meth.name = yX12_readsAll.name)  :
    ∀ (n : Nat) (v1 : Int32) (v2 : Int32) (w : MS), lw2 (P_X12_readsAll_29 G) n v1 v2 w = some y → EE G p l e ({ frames := 7, cells := 0, slots := 0, locals := 159 } : Room) s m args below meth c (none, mh h M y) 0 0 29 [(0, .ref M), (1, .int v1), (2, .int v2)] [] (mh h M w) 0 0 := by
  intro n
  induction n with
  | zero => intro v1 v2 w hf; exact (no_e hf).elim
  | succ n ih_29 =>
    intro v1 v2 w hf
    have hf : P_X12_readsAll_29 G (lw2 (P_X12_readsAll_29 G) n) v1 v2 w = some y := hf
    generalize lw2 (P_X12_readsAll_29 G) n = self_29 at hf ih_29
    unfold P_X12_readsAll_29 at hf
    refine e_iload_n (pc := 29) C dX12_readsAll_29 2 rfl rfl ?_
    rcases it_e hf with ⟨c7, hf⟩ | ⟨c7, hf⟩
    · refine e_if_eq (pc := 30) (tgt := 49) C dX12_readsAll_30 (by decide) (fun _ => ?_) (fun q => absurd c7 q)
      refine e_aload_n (pc := 49) C dX12_readsAll_49 0 rfl rfl ?_
      refine e_iconst (v := (0 : Int32)) (pc := 50) C dX12_readsAll_50 (by decide) ?_
      refine q_puti (pc := 51) 32 hI C dX12_readsAll_51 (by decide) g1433 rfl rfl rfl rfl ?_
      obtain ⟨w8, ew8, hf⟩ := nn_e hf
      refine q_hp ew8 ?_
      obtain rfl := so_e hf
      exact e_vret (pc := 54) C hr dX12_readsAll_54 (Nat.le_of_ble_eq_true rfl) (Nat.le_of_ble_eq_true rfl)
    · refine e_if_eq (pc := 30) (tgt := 49) C dX12_readsAll_30 (by decide) (fun q => absurd q c7) (fun _ => ?_)
      refine e_aload_n (pc := 33) C dX12_readsAll_33 0 rfl rfl ?_
      refine e_iload_n (pc := 34) C dX12_readsAll_34 1 rfl rfl ?_
      obtain ⟨w9, y10, hf⟩ := ob_e hf
      refine e_callVv (pc := 35) (st := []) 12 C (pt_X12_trainClause hI y10) dX12_readsAll_35 (by decide) hI.1 g1682 g1684 g58 g157 g1685 hd_X12_trainClause rfl ⟨Nat.le_of_ble_eq_true rfl, Nat.le_of_ble_eq_true rfl⟩ ⟨Nat.le_of_ble_eq_true rfl, Nat.le_of_ble_eq_true rfl⟩ rfl (Nat.le_of_ble_eq_true rfl) ?_
      obtain ⟨x11, ex11, hf⟩ := nn_e hf
      refine e_iinc (pc := 38) (v := x11) (lv2 := [(1, .int x11), (0, .ref M), (2, .int v2)]) C hm dX12_readsAll_38 1 rfl (by rw [ex11]; rfl) (by decide) rfl ?_
      refine e_aload_n (pc := 41) C dX12_readsAll_41 1 rfl rfl ?_
      obtain ⟨r14, w12, y13, hf⟩ := cw_e hf
      refine e_callVi (pc := 42) (st := []) 12 C (pt_X12_goesOn hI y13) dX12_readsAll_42 (by decide) hI.1 g1752 g1754 g71 g157 g1755 hd_X12_goesOn rfl ⟨Nat.le_of_ble_eq_true rfl, Nat.le_of_ble_eq_true rfl⟩ ⟨Nat.le_of_ble_eq_true rfl, Nat.le_of_ble_eq_true rfl⟩ rfl (Nat.le_of_ble_eq_true rfl) ?_
      refine e_istore_n (pc := 45) (lv2 := [(2, .int r14), (1, .int x11), (0, .ref M)]) C hm dX12_readsAll_45 rfl (by decide) rfl ?_
      refine e_goto (pc := 46) (tgt := 29) C dX12_readsAll_46 (by decide) ?_
      refine e_lv (lv2 := [(0, .ref M), (1, .int x11), (2, .int r14)]) [2, 1, 0] rfl ?_
      exact ih_29 x11 r14 w12 hf
set_option maxHeartbeats 4000000 in
set_option maxRecDepth 100000 in
theorem pt_X12_readsAll {G : GG} {l : Launch} {M : Nat} {h : AH} (hI : MI h M) {w : MS} {y : MS} (hf : p_X12_readsAll G w = some y) : Ct G l yX12_readsAll cX12_readsAll 3 none 7 159 0 0 [.ref M] (mh h M w) (none, mh h M y) := by
  refine ct_of (by decide) (Nat.le_of_ble_eq_true rfl) ?_
  intro p e s m args below meth c C hm hr hin
  have C : Cx G cX12_readsAll RX12 p s m args meth c := C
  refine e_lv (lv2 := [(0, .ref M)]) [0] rfl ?_
  unfold p_X12_readsAll at hf
  refine e_aload_n (pc := 0) C dX12_readsAll_0 0 rfl rfl ?_
  obtain ⟨w1, y2, hf⟩ := ob_e hf
  refine e_callVv (pc := 1) (st := []) 12 C (pt_X12_starts hI y2) dX12_readsAll_1 (by decide) hI.1 g1678 g1680 g57 g157 g1681 hd_X12_starts rfl ⟨Nat.le_of_ble_eq_true rfl, Nat.le_of_ble_eq_true rfl⟩ ⟨Nat.le_of_ble_eq_true rfl, Nat.le_of_ble_eq_true rfl⟩ rfl (Nat.le_of_ble_eq_true rfl) ?_
  refine e_iconst (v := (0 : Int32)) (pc := 4) C dX12_readsAll_4 (by decide) ?_
  refine e_istore_n (pc := 5) (lv2 := [(1, .int (0 : Int32)), (0, .ref M)]) C hm dX12_readsAll_5 rfl (by decide) rfl ?_
  refine e_lv (lv2 := [(0, .ref M), (1, .int (0 : Int32))]) [1, 0] rfl ?_
  refine ep_X12_readsAll_6 hI C hm hr hin (fun h_25 hf => ?_) bN (0 : Int32) w1 hf
  refine e_iconst (v := (0 : Int32)) (pc := 25) C dX12_readsAll_25 (by decide) ?_
  refine e_istore_n (pc := 26) (lv2 := [(1, .int (0 : Int32)), (0, .ref M)]) C hm dX12_readsAll_26 rfl (by decide) rfl ?_
  refine e_iconst (v := (1 : Int32)) (pc := 27) C dX12_readsAll_27 (by decide) ?_
  refine e_istore_n (pc := 28) (lv2 := [(2, .int (1 : Int32)), (1, .int (0 : Int32)), (0, .ref M)]) C hm dX12_readsAll_28 rfl (by decide) rfl ?_
  refine e_lv (lv2 := [(0, .ref M), (1, .int (0 : Int32)), (2, .int (1 : Int32))]) [2, 1, 0] rfl ?_
  exact ep_X12_readsAll_29 hI C hm hr hin bN (0 : Int32) (1 : Int32) h_25 hf
theorem dX12_maySit_0 : decode cX12_maySit 0 = .ok (.iload_n 2, 1) := by decide +kernel
theorem dX12_maySit_1 : decode cX12_maySit 1 = .ok (.iconst 4, 1) := by decide +kernel
theorem dX12_maySit_2 : decode cX12_maySit 2 = .ok (.if_icmp .lt 17, 3) := by decide +kernel
theorem dX12_maySit_5 : decode cX12_maySit 5 = .ok (.aload_n 0, 1) := by decide +kernel
theorem dX12_maySit_6 : decode cX12_maySit 6 = .ok (.getfield 9, 3) := by decide +kernel
theorem dX12_maySit_9 : decode cX12_maySit 9 = .ok (.bipush 7, 2) := by decide +kernel
theorem dX12_maySit_11 : decode cX12_maySit 11 = .ok (.iaload, 1) := by decide +kernel
theorem dX12_maySit_12 : decode cX12_maySit 12 = .ok (.iload_n 1, 1) := by decide +kernel
theorem dX12_maySit_13 : decode cX12_maySit 13 = .ok (.invokestatic 461, 3) := by decide +kernel
theorem dX12_maySit_16 : decode cX12_maySit 16 = .ok (.ifCond .ne 7, 3) := by decide +kernel
theorem dX12_maySit_19 : decode cX12_maySit 19 = .ok (.iconst 1, 1) := by decide +kernel
theorem dX12_maySit_20 : decode cX12_maySit 20 = .ok (.goto 4, 3) := by decide +kernel
theorem dX12_maySit_23 : decode cX12_maySit 23 = .ok (.iconst 0, 1) := by decide +kernel
theorem dX12_maySit_24 : decode cX12_maySit 24 = .ok (.ireturn, 1) := by decide +kernel
def p_X12_maySit (G : GG) (v1 : Int32) (v2 : Int32) (w : MS) : Option (Int32 × MS) :=
if v2 < (4 : Int32) then (some ((1 : Int32), w)) else
ck (ixn 17 (7 : Int32) = true) <|
cw (p_X12_has G (w.1 1 (7 : Int32).toNatClampNeg) v1 w) fun r5 w3 =>
if r5 = 0 then (some ((1 : Int32), w3)) else
some ((0 : Int32), w3)
set_option maxHeartbeats 4000000 in
set_option maxRecDepth 100000 in
theorem pt_X12_maySit {G : GG} {l : Launch} {M : Nat} {h : AH} (hI : MI h M) {v1 : Int32} {v2 : Int32} {w : MS} {y : Int32 × MS} (hf : p_X12_maySit G v1 v2 w = some y) : Ct G l yX12_maySit cX12_maySit 3 (some .boolean) 1 21 0 0 [.ref M, .int v1, .int v2] (mh h M w) (some (.int y.1), mh h M y.2) := by
  refine ct_of (by decide) (Nat.le_of_ble_eq_true rfl) ?_
  intro p e s m args below meth c C hm hr hin
  have C : Cx G cX12_maySit RX12 p s m args meth c := C
  refine e_lv (lv2 := [(0, .ref M), (1, .int v1), (2, .int v2)]) [0, 1, 2] rfl ?_
  unfold p_X12_maySit at hf
  refine e_iload_n (pc := 0) C dX12_maySit_0 2 rfl rfl ?_
  refine e_iconst (v := (4 : Int32)) (pc := 1) C dX12_maySit_1 (by decide) ?_
  rcases it_e hf with ⟨c1, hf⟩ | ⟨c1, hf⟩
  · refine e_icmp_lt (pc := 2) (tgt := 19) C dX12_maySit_2 (by decide) (fun _ => ?_) (fun q => absurd c1 q)
    refine e_iconst (v := (1 : Int32)) (pc := 19) C dX12_maySit_19 (by decide) ?_
    refine e_goto (pc := 20) (tgt := 24) C dX12_maySit_20 (by decide) ?_
    obtain rfl := so_e hf
    exact e_zret (pc := 24) (v := (1 : Int32)) C hr (nz_ok (by decide)) dX12_maySit_24 (Nat.le_of_ble_eq_true rfl) (Nat.le_of_ble_eq_true rfl)
  · refine e_icmp_lt (pc := 2) (tgt := 19) C dX12_maySit_2 (by decide) (fun q => absurd q c1) (fun _ => ?_)
    refine e_aload_n (pc := 5) C dX12_maySit_5 0 rfl rfl ?_
    refine q_getr (pc := 6) 1 hI C dX12_maySit_6 (by decide) g1402 rfl rfl ?_
    refine e_bipush (v := (7 : Int32)) (pc := 9) C dX12_maySit_9 (by decide) ?_
    obtain ⟨q2, hf⟩ := ck_e hf
    refine q_iald (pc := 11) (k := 1) hI C dX12_maySit_11 rfl (ixn_e q2) ?_
    refine e_iload_n (pc := 12) C dX12_maySit_12 1 rfl rfl ?_
    obtain ⟨r5, w3, y4, hf⟩ := cw_e hf
    refine e_callSi (pc := 13) (st := []) C (pt_X12_has hI y4) dX12_maySit_13 g1771 g1772 g157 g1773 hd_X12_has rfl ⟨Nat.le_of_ble_eq_true rfl, Nat.le_of_ble_eq_true rfl⟩ ⟨Nat.le_of_ble_eq_true rfl, Nat.le_of_ble_eq_true rfl⟩ rfl (Nat.le_of_ble_eq_true rfl) ?_
    rcases it_e hf with ⟨c6, hf⟩ | ⟨c6, hf⟩
    · refine e_if_ne (pc := 16) (tgt := 23) C dX12_maySit_16 (by decide) (fun q => absurd c6 q) (fun _ => ?_)
      refine e_iconst (v := (1 : Int32)) (pc := 19) C dX12_maySit_19 (by decide) ?_
      refine e_goto (pc := 20) (tgt := 24) C dX12_maySit_20 (by decide) ?_
      obtain rfl := so_e hf
      exact e_zret (pc := 24) (v := (1 : Int32)) C hr (nz_ok (by decide)) dX12_maySit_24 (Nat.le_of_ble_eq_true rfl) (Nat.le_of_ble_eq_true rfl)
    · refine e_if_ne (pc := 16) (tgt := 23) C dX12_maySit_16 (by decide) (fun _ => ?_) (fun q => absurd q c6)
      refine e_iconst (v := (0 : Int32)) (pc := 23) C dX12_maySit_23 (by decide) ?_
      obtain rfl := so_e hf
      exact e_zret (pc := 24) (v := (0 : Int32)) C hr (nz_ok (by decide)) dX12_maySit_24 (Nat.le_of_ble_eq_true rfl) (Nat.le_of_ble_eq_true rfl)
theorem dX12_sitterOf_0 : decode cX12_sitterOf 0 = .ok (.iconst 0, 1) := by decide +kernel
theorem dX12_sitterOf_1 : decode cX12_sitterOf 1 = .ok (.istore_n 2, 1) := by decide +kernel
theorem dX12_sitterOf_2 : decode cX12_sitterOf 2 = .ok (.iload_n 2, 1) := by decide +kernel
theorem dX12_sitterOf_3 : decode cX12_sitterOf 3 = .ok (.aload_n 0, 1) := by decide +kernel
theorem dX12_sitterOf_4 : decode cX12_sitterOf 4 = .ok (.getfield 9, 3) := by decide +kernel
theorem dX12_sitterOf_7 : decode cX12_sitterOf 7 = .ok (.bipush 6, 2) := by decide +kernel
theorem dX12_sitterOf_9 : decode cX12_sitterOf 9 = .ok (.iaload, 1) := by decide +kernel
theorem dX12_sitterOf_10 : decode cX12_sitterOf 10 = .ok (.if_icmp .ge 29, 3) := by decide +kernel
theorem dX12_sitterOf_13 : decode cX12_sitterOf 13 = .ok (.aload_n 0, 1) := by decide +kernel
theorem dX12_sitterOf_14 : decode cX12_sitterOf 14 = .ok (.iload_n 2, 1) := by decide +kernel
theorem dX12_sitterOf_15 : decode cX12_sitterOf 15 = .ok (.invokevirtual 449, 3) := by decide +kernel
theorem dX12_sitterOf_18 : decode cX12_sitterOf 18 = .ok (.ifCond .eq 15, 3) := by decide +kernel
theorem dX12_sitterOf_21 : decode cX12_sitterOf 21 = .ok (.aload_n 0, 1) := by decide +kernel
theorem dX12_sitterOf_22 : decode cX12_sitterOf 22 = .ok (.getfield 34, 3) := by decide +kernel
theorem dX12_sitterOf_25 : decode cX12_sitterOf 25 = .ok (.iload_n 2, 1) := by decide +kernel
theorem dX12_sitterOf_26 : decode cX12_sitterOf 26 = .ok (.iaload, 1) := by decide +kernel
theorem dX12_sitterOf_27 : decode cX12_sitterOf 27 = .ok (.iload_n 1, 1) := by decide +kernel
theorem dX12_sitterOf_28 : decode cX12_sitterOf 28 = .ok (.if_icmp .ne 5, 3) := by decide +kernel
theorem dX12_sitterOf_31 : decode cX12_sitterOf 31 = .ok (.iload_n 2, 1) := by decide +kernel
theorem dX12_sitterOf_32 : decode cX12_sitterOf 32 = .ok (.ireturn, 1) := by decide +kernel
theorem dX12_sitterOf_33 : decode cX12_sitterOf 33 = .ok (.iinc 2 1, 3) := by decide +kernel
theorem dX12_sitterOf_36 : decode cX12_sitterOf 36 = .ok (.goto (-34), 3) := by decide +kernel
theorem dX12_sitterOf_39 : decode cX12_sitterOf 39 = .ok (.iconst (-1), 1) := by decide +kernel
theorem dX12_sitterOf_40 : decode cX12_sitterOf 40 = .ok (.ireturn, 1) := by decide +kernel
def P_X12_sitterOf_2 (G : GG) (v1 : Int32) (self_2 : Int32 → MS → Option (Int32 × MS)) (v2 : Int32) (w : MS) : Option (Int32 × MS) :=
ck (ixn 17 (6 : Int32) = true) <|
if (w.1 1 (6 : Int32).toNatClampNeg) ≤ v2 then (some ((-1 : Int32), w)) else
cw (p_X12_rides G v2 w) fun r5 w3 =>
nn (fun (uu_33 : Unit) => (nn (v2 + (1 : Int32)) fun x6 =>
self_2 x6 w3)) fun j_33 =>
if r5 = 0 then (j_33 ()) else
ck (ixn 8 v2 = true) <|
if (w3.1 9 v2.toNatClampNeg) = v1 then (some (v2, w3)) else
j_33 ()
def p_X12_sitterOf (G : GG) (v1 : Int32) (w : MS) : Option (Int32 × MS) :=
lw1 (P_X12_sitterOf_2 G v1 ) bN (0 : Int32) w
set_option maxHeartbeats 4000000 in
set_option maxRecDepth 100000 in
theorem ep_X12_sitterOf_2 {G : GG} {p : Program} {l : Launch} {e : Env} {s : State} {m : MethodId} {args : Array Value} {below : List Frame} {meth : Method} {c : Code} {y : Int32 × MS} {M : Nat} {h : AH} (hI : MI h M) (C : Cx G cX12_sitterOf RX12 p s m args meth c) (hm : c.maxLocals = 3) (hr : meth.sig.returnType = (some .int)) (hin : meth.name = yX12_sitterOf.name) {v1 : Int32}  :
    ∀ (n : Nat) (v2 : Int32) (w : MS), lw1 (P_X12_sitterOf_2 G v1) n v2 w = some y → EE G p l e ({ frames := 1, cells := 0, slots := 0, locals := 21 } : Room) s m args below meth c (some (.int y.1), mh h M y.2) 0 0 2 [(0, .ref M), (1, .int v1), (2, .int v2)] [] (mh h M w) 0 0 := by
  intro n
  induction n with
  | zero => intro v2 w hf; exact (no_e hf).elim
  | succ n ih_2 =>
    intro v2 w hf
    have hf : P_X12_sitterOf_2 G v1 (lw1 (P_X12_sitterOf_2 G v1) n) v2 w = some y := hf
    generalize lw1 (P_X12_sitterOf_2 G v1) n = self_2 at hf ih_2
    unfold P_X12_sitterOf_2 at hf
    refine e_iload_n (pc := 2) C dX12_sitterOf_2 2 rfl rfl ?_
    refine e_aload_n (pc := 3) C dX12_sitterOf_3 0 rfl rfl ?_
    refine q_getr (pc := 4) 1 hI C dX12_sitterOf_4 (by decide) g1402 rfl rfl ?_
    refine e_bipush (v := (6 : Int32)) (pc := 7) C dX12_sitterOf_7 (by decide) ?_
    obtain ⟨q1, hf⟩ := ck_e hf
    refine q_iald (pc := 9) (k := 1) hI C dX12_sitterOf_9 rfl (ixn_e q1) ?_
    rcases it_e hf with ⟨c2, hf⟩ | ⟨c2, hf⟩
    · refine e_icmp_ge (pc := 10) (tgt := 39) C dX12_sitterOf_10 (by decide) (fun _ => ?_) (fun q => absurd c2 q)
      refine e_iconst (v := (-1 : Int32)) (pc := 39) C dX12_sitterOf_39 (by decide) ?_
      obtain rfl := so_e hf
      exact e_iret (pc := 40) C hr dX12_sitterOf_40 (Nat.le_of_ble_eq_true rfl) (Nat.le_of_ble_eq_true rfl)
    · refine e_icmp_ge (pc := 10) (tgt := 39) C dX12_sitterOf_10 (by decide) (fun q => absurd q c2) (fun _ => ?_)
      refine e_aload_n (pc := 13) C dX12_sitterOf_13 0 rfl rfl ?_
      refine e_iload_n (pc := 14) C dX12_sitterOf_14 2 rfl rfl ?_
      obtain ⟨r5, w3, y4, hf⟩ := cw_e hf
      refine e_callVi (pc := 15) (st := []) 12 C (pt_X12_rides hI y4) dX12_sitterOf_15 (by decide) hI.1 g1778 g1780 g76 g157 g1781 hd_X12_rides rfl ⟨Nat.le_of_ble_eq_true rfl, Nat.le_of_ble_eq_true rfl⟩ ⟨Nat.le_of_ble_eq_true rfl, Nat.le_of_ble_eq_true rfl⟩ rfl (Nat.le_of_ble_eq_true rfl) ?_
      obtain ⟨j_33, ej_33, hf⟩ := nn_e hf
      have W_33 : ∀ (uu_33 : Unit), j_33 uu_33 = some y → EE G p l e ({ frames := 1, cells := 0, slots := 0, locals := 21 } : Room) s m args below meth c (some (.int y.1), mh h M y.2) 0 0 33 [(0, .ref M), (1, .int v1), (2, .int v2)] [] (mh h M w3) 0 0 := by
        intro uu_33 hf
        rw [ej_33] at hf
        obtain ⟨x6, ex6, hf⟩ := nn_e hf
        refine e_iinc (pc := 33) (v := x6) (lv2 := [(2, .int x6), (0, .ref M), (1, .int v1)]) C hm dX12_sitterOf_33 2 rfl (by rw [ex6]; rfl) (by decide) rfl ?_
        refine e_goto (pc := 36) (tgt := 2) C dX12_sitterOf_36 (by decide) ?_
        refine e_lv (lv2 := [(0, .ref M), (1, .int v1), (2, .int x6)]) [1, 2, 0] rfl ?_
        exact ih_2 x6 w3 hf
      rcases it_e hf with ⟨c7, hf⟩ | ⟨c7, hf⟩
      · refine e_if_eq (pc := 18) (tgt := 33) C dX12_sitterOf_18 (by decide) (fun _ => ?_) (fun q => absurd c7 q)
        exact W_33 () hf
      · refine e_if_eq (pc := 18) (tgt := 33) C dX12_sitterOf_18 (by decide) (fun q => absurd q c7) (fun _ => ?_)
        refine e_aload_n (pc := 21) C dX12_sitterOf_21 0 rfl rfl ?_
        refine q_getr (pc := 22) 9 hI C dX12_sitterOf_22 (by decide) g1410 rfl rfl ?_
        refine e_iload_n (pc := 25) C dX12_sitterOf_25 2 rfl rfl ?_
        obtain ⟨q8, hf⟩ := ck_e hf
        refine q_iald (pc := 26) (k := 9) hI C dX12_sitterOf_26 rfl (ixn_e q8) ?_
        refine e_iload_n (pc := 27) C dX12_sitterOf_27 1 rfl rfl ?_
        rcases it_e hf with ⟨c9, hf⟩ | ⟨c9, hf⟩
        · refine e_icmp_ne (pc := 28) (tgt := 33) C dX12_sitterOf_28 (by decide) (fun q => absurd c9 q) (fun _ => ?_)
          refine e_iload_n (pc := 31) C dX12_sitterOf_31 2 rfl rfl ?_
          obtain rfl := so_e hf
          exact e_iret (pc := 32) C hr dX12_sitterOf_32 (Nat.le_of_ble_eq_true rfl) (Nat.le_of_ble_eq_true rfl)
        · refine e_icmp_ne (pc := 28) (tgt := 33) C dX12_sitterOf_28 (by decide) (fun _ => ?_) (fun q => absurd q c9)
          exact W_33 () hf
set_option maxHeartbeats 4000000 in
set_option maxRecDepth 100000 in
theorem pt_X12_sitterOf {G : GG} {l : Launch} {M : Nat} {h : AH} (hI : MI h M) {v1 : Int32} {w : MS} {y : Int32 × MS} (hf : p_X12_sitterOf G v1 w = some y) : Ct G l yX12_sitterOf cX12_sitterOf 3 (some .int) 1 21 0 0 [.ref M, .int v1] (mh h M w) (some (.int y.1), mh h M y.2) := by
  refine ct_of (by decide) (Nat.le_of_ble_eq_true rfl) ?_
  intro p e s m args below meth c C hm hr hin
  have C : Cx G cX12_sitterOf RX12 p s m args meth c := C
  refine e_lv (lv2 := [(0, .ref M), (1, .int v1)]) [0, 1] rfl ?_
  unfold p_X12_sitterOf at hf
  refine e_iconst (v := (0 : Int32)) (pc := 0) C dX12_sitterOf_0 (by decide) ?_
  refine e_istore_n (pc := 1) (lv2 := [(2, .int (0 : Int32)), (0, .ref M), (1, .int v1)]) C hm dX12_sitterOf_1 rfl (by decide) rfl ?_
  refine e_lv (lv2 := [(0, .ref M), (1, .int v1), (2, .int (0 : Int32))]) [1, 2, 0] rfl ?_
  exact ep_X12_sitterOf_2 hI C hm hr hin bN (0 : Int32) w hf
theorem dX12_sitsDown_0 : decode cX12_sitsDown 0 = .ok (.aload_n 0, 1) := by decide +kernel
theorem dX12_sitsDown_1 : decode cX12_sitsDown 1 = .ok (.iload_n 1, 1) := by decide +kernel
theorem dX12_sitsDown_2 : decode cX12_sitsDown 2 = .ok (.aload_n 0, 1) := by decide +kernel
theorem dX12_sitsDown_3 : decode cX12_sitsDown 3 = .ok (.getfield 16, 3) := by decide +kernel
theorem dX12_sitsDown_6 : decode cX12_sitsDown 6 = .ok (.iload_n 1, 1) := by decide +kernel
theorem dX12_sitsDown_7 : decode cX12_sitsDown 7 = .ok (.iaload, 1) := by decide +kernel
theorem dX12_sitsDown_8 : decode cX12_sitsDown 8 = .ok (.invokevirtual 479, 3) := by decide +kernel
theorem dX12_sitsDown_11 : decode cX12_sitsDown 11 = .ok (.ifCond .eq 26, 3) := by decide +kernel
theorem dX12_sitsDown_14 : decode cX12_sitsDown 14 = .ok (.aload_n 0, 1) := by decide +kernel
theorem dX12_sitsDown_15 : decode cX12_sitsDown 15 = .ok (.aload_n 0, 1) := by decide +kernel
theorem dX12_sitsDown_16 : decode cX12_sitsDown 16 = .ok (.getfield 16, 3) := by decide +kernel
theorem dX12_sitsDown_19 : decode cX12_sitsDown 19 = .ok (.iload_n 1, 1) := by decide +kernel
theorem dX12_sitsDown_20 : decode cX12_sitsDown 20 = .ok (.iaload, 1) := by decide +kernel
theorem dX12_sitsDown_21 : decode cX12_sitsDown 21 = .ok (.invokevirtual 471, 3) := by decide +kernel
theorem dX12_sitsDown_24 : decode cX12_sitsDown 24 = .ok (.iconst (-1), 1) := by decide +kernel
theorem dX12_sitsDown_25 : decode cX12_sitsDown 25 = .ok (.if_icmp .ne 12, 3) := by decide +kernel
theorem dX12_sitsDown_28 : decode cX12_sitsDown 28 = .ok (.aload_n 0, 1) := by decide +kernel
theorem dX12_sitsDown_29 : decode cX12_sitsDown 29 = .ok (.getfield 16, 3) := by decide +kernel
theorem dX12_sitsDown_32 : decode cX12_sitsDown 32 = .ok (.iload_n 1, 1) := by decide +kernel
theorem dX12_sitsDown_33 : decode cX12_sitsDown 33 = .ok (.iaload, 1) := by decide +kernel
theorem dX12_sitsDown_34 : decode cX12_sitsDown 34 = .ok (.goto 4, 3) := by decide +kernel
theorem dX12_sitsDown_37 : decode cX12_sitsDown 37 = .ok (.iconst (-1), 1) := by decide +kernel
theorem dX12_sitsDown_38 : decode cX12_sitsDown 38 = .ok (.istore_n 2, 1) := by decide +kernel
theorem dX12_sitsDown_39 : decode cX12_sitsDown 39 = .ok (.aload_n 0, 1) := by decide +kernel
theorem dX12_sitsDown_40 : decode cX12_sitsDown 40 = .ok (.getfield 9, 3) := by decide +kernel
theorem dX12_sitsDown_43 : decode cX12_sitsDown 43 = .ok (.bipush 7, 2) := by decide +kernel
theorem dX12_sitsDown_45 : decode cX12_sitsDown 45 = .ok (.iaload, 1) := by decide +kernel
theorem dX12_sitsDown_46 : decode cX12_sitsDown 46 = .ok (.iload_n 1, 1) := by decide +kernel
theorem dX12_sitsDown_47 : decode cX12_sitsDown 47 = .ok (.invokestatic 461, 3) := by decide +kernel
theorem dX12_sitsDown_50 : decode cX12_sitsDown 50 = .ok (.ifCond .eq 7, 3) := by decide +kernel
theorem dX12_sitsDown_53 : decode cX12_sitsDown 53 = .ok (.iconst 3, 1) := by decide +kernel
theorem dX12_sitsDown_54 : decode cX12_sitsDown 54 = .ok (.goto 5, 3) := by decide +kernel
theorem dX12_sitsDown_57 : decode cX12_sitsDown 57 = .ok (.bipush 7, 2) := by decide +kernel
theorem dX12_sitsDown_59 : decode cX12_sitsDown 59 = .ok (.istore_n 3, 1) := by decide +kernel
theorem dX12_sitsDown_60 : decode cX12_sitsDown 60 = .ok (.iconst 0, 1) := by decide +kernel
theorem dX12_sitsDown_61 : decode cX12_sitsDown 61 = .ok (.istore 4, 2) := by decide +kernel
theorem dX12_sitsDown_63 : decode cX12_sitsDown 63 = .ok (.iload 4, 2) := by decide +kernel
theorem dX12_sitsDown_65 : decode cX12_sitsDown 65 = .ok (.iload_n 3, 1) := by decide +kernel
theorem dX12_sitsDown_66 : decode cX12_sitsDown 66 = .ok (.if_icmp .gt 31, 3) := by decide +kernel
theorem dX12_sitsDown_69 : decode cX12_sitsDown 69 = .ok (.iload_n 2, 1) := by decide +kernel
theorem dX12_sitsDown_70 : decode cX12_sitsDown 70 = .ok (.iconst (-1), 1) := by decide +kernel
theorem dX12_sitsDown_71 : decode cX12_sitsDown 71 = .ok (.if_icmp .ne 26, 3) := by decide +kernel
theorem dX12_sitsDown_74 : decode cX12_sitsDown 74 = .ok (.aload_n 0, 1) := by decide +kernel
theorem dX12_sitsDown_75 : decode cX12_sitsDown 75 = .ok (.iload 4, 2) := by decide +kernel
theorem dX12_sitsDown_77 : decode cX12_sitsDown 77 = .ok (.invokevirtual 471, 3) := by decide +kernel
theorem dX12_sitsDown_80 : decode cX12_sitsDown 80 = .ok (.iconst (-1), 1) := by decide +kernel
theorem dX12_sitsDown_81 : decode cX12_sitsDown 81 = .ok (.if_icmp .ne 8, 3) := by decide +kernel
theorem dX12_sitsDown_84 : decode cX12_sitsDown 84 = .ok (.iload 4, 2) := by decide +kernel
theorem dX12_sitsDown_86 : decode cX12_sitsDown 86 = .ok (.goto 4, 3) := by decide +kernel
theorem dX12_sitsDown_89 : decode cX12_sitsDown 89 = .ok (.iconst (-1), 1) := by decide +kernel
theorem dX12_sitsDown_90 : decode cX12_sitsDown 90 = .ok (.istore_n 2, 1) := by decide +kernel
theorem dX12_sitsDown_91 : decode cX12_sitsDown 91 = .ok (.iinc 4 1, 3) := by decide +kernel
theorem dX12_sitsDown_94 : decode cX12_sitsDown 94 = .ok (.goto (-31), 3) := by decide +kernel
theorem dX12_sitsDown_97 : decode cX12_sitsDown 97 = .ok (.aload_n 0, 1) := by decide +kernel
theorem dX12_sitsDown_98 : decode cX12_sitsDown 98 = .ok (.getfield 37, 3) := by decide +kernel
theorem dX12_sitsDown_101 : decode cX12_sitsDown 101 = .ok (.iload_n 1, 1) := by decide +kernel
theorem dX12_sitsDown_102 : decode cX12_sitsDown 102 = .ok (.iconst 1, 1) := by decide +kernel
theorem dX12_sitsDown_103 : decode cX12_sitsDown 103 = .ok (.iastore, 1) := by decide +kernel
theorem dX12_sitsDown_104 : decode cX12_sitsDown 104 = .ok (.aload_n 0, 1) := by decide +kernel
theorem dX12_sitsDown_105 : decode cX12_sitsDown 105 = .ok (.getfield 34, 3) := by decide +kernel
theorem dX12_sitsDown_108 : decode cX12_sitsDown 108 = .ok (.iload_n 1, 1) := by decide +kernel
theorem dX12_sitsDown_109 : decode cX12_sitsDown 109 = .ok (.iload_n 2, 1) := by decide +kernel
theorem dX12_sitsDown_110 : decode cX12_sitsDown 110 = .ok (.iastore, 1) := by decide +kernel
theorem dX12_sitsDown_111 : decode cX12_sitsDown 111 = .ok (.return_, 1) := by decide +kernel
def P_X12_sitsDown_63 (G : GG) (v1 : Int32) (v3 : Int32) (K_97 : Int32 → MS → Option (MS)) (self_63 : Int32 → Int32 → MS → Option (MS)) (v2 : Int32) (v4 : Int32) (w : MS) : Option (MS) :=
if v3 < v4 then (K_97 v2 w) else
if v2 = (-1 : Int32) then (cw (p_X12_sitterOf G v4 w) fun r13 w11 =>
nn (fun (s0_90 : Int32) => (nn (v4 + (1 : Int32)) fun x14 =>
self_63 s0_90 x14 w11)) fun j_90 =>
if r13 = (-1 : Int32) then (j_90 v4) else
j_90 (-1 : Int32)) else
K_97 v2 w
def p_X12_sitsDown (G : GG) (v1 : Int32) (w : MS) : Option (MS) :=
ck (ixn 8 v1 = true) <|
cw (p_X12_maySit G v1 (w.1 3 v1.toNatClampNeg) w) fun r4 w2 =>
nn (fun (s0_38 : Int32) (h_38 : MS) => (ck (ixn 17 (7 : Int32) = true) <|
cw (p_X12_has G (h_38.1 1 (7 : Int32).toNatClampNeg) v1 h_38) fun r8 w6 =>
nn (fun (s0_59 : Int32) => (lw2 (P_X12_sitsDown_63 G v1 s0_59 (fun (v2_97 : Int32) (h_97 : MS) => (ck (ixn 8 v1 = true) <|
nn (w_si h_97 10 v1.toNatClampNeg (1 : Int32)) fun w17 =>
ck (ixn 8 v1 = true) <|
nn (w_si w17 9 v1.toNatClampNeg v2_97) fun w19 =>
some w19))) bN s0_38 (0 : Int32) w6)) fun j_59 =>
if r8 = 0 then (j_59 (7 : Int32)) else
j_59 (3 : Int32))) fun j_38 =>
nn (fun (h_37 : MS) => (j_38 (-1 : Int32) h_37)) fun j_37 =>
if r4 = 0 then (j_37 w2) else
ck (ixn 8 v1 = true) <|
cw (p_X12_sitterOf G (w2.1 3 v1.toNatClampNeg) w2) fun r25 w23 =>
if r25 = (-1 : Int32) then (ck (ixn 8 v1 = true) <|
j_38 (w23.1 3 v1.toNatClampNeg) w23) else
j_37 w23
set_option maxHeartbeats 4000000 in
set_option maxRecDepth 100000 in
theorem ep_X12_sitsDown_63 {G : GG} {p : Program} {l : Launch} {e : Env} {s : State} {m : MethodId} {args : Array Value} {below : List Frame} {meth : Method} {c : Code} {y : MS} {M : Nat} {h : AH} (hI : MI h M) (C : Cx G cX12_sitsDown RX12 p s m args meth c) (hm : c.maxLocals = 5) (hr : meth.sig.returnType = none) (hin : meth.name = yX12_sitsDown.name) {v1 : Int32} {v3 : Int32} {K_97 : Int32 → MS → Option (MS)} (hK_97 : ∀ (u2 : Int32) (w : MS), K_97 u2 w = some y → EE G p l e ({ frames := 2, cells := 0, slots := 0, locals := 43 } : Room) s m args below meth c (none, mh h M y) 0 0 97 [(0, .ref M), (1, .int v1), (2, .int u2)] [] (mh h M w) 0 0) :
    ∀ (n : Nat) (v2 : Int32) (v4 : Int32) (w : MS), lw2 (P_X12_sitsDown_63 G v1 v3 K_97) n v2 v4 w = some y → EE G p l e ({ frames := 2, cells := 0, slots := 0, locals := 43 } : Room) s m args below meth c (none, mh h M y) 0 0 63 [(0, .ref M), (1, .int v1), (2, .int v2), (3, .int v3), (4, .int v4)] [] (mh h M w) 0 0 := by
  intro n
  induction n with
  | zero => intro v2 v4 w hf; exact (no_e hf).elim
  | succ n ih_63 =>
    intro v2 v4 w hf
    have hf : P_X12_sitsDown_63 G v1 v3 K_97 (lw2 (P_X12_sitsDown_63 G v1 v3 K_97) n) v2 v4 w = some y := hf
    generalize lw2 (P_X12_sitsDown_63 G v1 v3 K_97) n = self_63 at hf ih_63
    unfold P_X12_sitsDown_63 at hf
    refine e_iload (pc := 63) C dX12_sitsDown_63 4 rfl ?_
    refine e_iload_n (pc := 65) C dX12_sitsDown_65 3 rfl rfl ?_
    rcases it_e hf with ⟨c9, hf⟩ | ⟨c9, hf⟩
    · refine e_icmp_gt (pc := 66) (tgt := 97) C dX12_sitsDown_66 (by decide) (fun _ => ?_) (fun q => absurd c9 q)
      refine e_lv (lv2 := [(0, .ref M), (1, .int v1), (2, .int v2)]) [0, 1, 2] rfl ?_
      exact hK_97 v2 w hf
    · refine e_icmp_gt (pc := 66) (tgt := 97) C dX12_sitsDown_66 (by decide) (fun q => absurd q c9) (fun _ => ?_)
      refine e_iload_n (pc := 69) C dX12_sitsDown_69 2 rfl rfl ?_
      refine e_iconst (v := (-1 : Int32)) (pc := 70) C dX12_sitsDown_70 (by decide) ?_
      rcases it_e hf with ⟨c10, hf⟩ | ⟨c10, hf⟩
      · refine e_icmp_ne (pc := 71) (tgt := 97) C dX12_sitsDown_71 (by decide) (fun q => absurd c10 q) (fun _ => ?_)
        refine e_aload_n (pc := 74) C dX12_sitsDown_74 0 rfl rfl ?_
        refine e_iload (pc := 75) C dX12_sitsDown_75 4 rfl ?_
        obtain ⟨r13, w11, y12, hf⟩ := cw_e hf
        refine e_callVi (pc := 77) (st := []) 12 C (pt_X12_sitterOf hI y12) dX12_sitsDown_77 (by decide) hI.1 g1774 g1776 g75 g157 g1777 hd_X12_sitterOf rfl ⟨Nat.le_of_ble_eq_true rfl, Nat.le_of_ble_eq_true rfl⟩ ⟨Nat.le_of_ble_eq_true rfl, Nat.le_of_ble_eq_true rfl⟩ rfl (Nat.le_of_ble_eq_true rfl) ?_
        refine e_iconst (v := (-1 : Int32)) (pc := 80) C dX12_sitsDown_80 (by decide) ?_
        obtain ⟨j_90, ej_90, hf⟩ := nn_e hf
        have W_90 : ∀ (s0_90 : Int32), j_90 s0_90 = some y → EE G p l e ({ frames := 2, cells := 0, slots := 0, locals := 43 } : Room) s m args below meth c (none, mh h M y) 0 0 90 [(0, .ref M), (1, .int v1), (3, .int v3), (4, .int v4)] [.int s0_90] (mh h M w11) 0 0 := by
          intro s0_90 hf
          rw [ej_90] at hf
          refine e_istore_n (pc := 90) (lv2 := [(2, .int s0_90), (0, .ref M), (1, .int v1), (3, .int v3), (4, .int v4)]) C hm dX12_sitsDown_90 rfl (by decide) rfl ?_
          obtain ⟨x14, ex14, hf⟩ := nn_e hf
          refine e_iinc (pc := 91) (v := x14) (lv2 := [(4, .int x14), (2, .int s0_90), (0, .ref M), (1, .int v1), (3, .int v3)]) C hm dX12_sitsDown_91 4 rfl (by rw [ex14]; rfl) (by decide) rfl ?_
          refine e_goto (pc := 94) (tgt := 63) C dX12_sitsDown_94 (by decide) ?_
          refine e_lv (lv2 := [(0, .ref M), (1, .int v1), (2, .int s0_90), (3, .int v3), (4, .int x14)]) [2, 3, 1, 4, 0] rfl ?_
          exact ih_63 s0_90 x14 w11 hf
        rcases it_e hf with ⟨c15, hf⟩ | ⟨c15, hf⟩
        · refine e_icmp_ne (pc := 81) (tgt := 89) C dX12_sitsDown_81 (by decide) (fun q => absurd c15 q) (fun _ => ?_)
          refine e_iload (pc := 84) C dX12_sitsDown_84 4 rfl ?_
          refine e_goto (pc := 86) (tgt := 90) C dX12_sitsDown_86 (by decide) ?_
          refine e_lv (lv2 := [(0, .ref M), (1, .int v1), (3, .int v3), (4, .int v4)]) [0, 1, 3, 4] rfl ?_
          exact W_90 v4 hf
        · refine e_icmp_ne (pc := 81) (tgt := 89) C dX12_sitsDown_81 (by decide) (fun _ => ?_) (fun q => absurd q c15)
          refine e_iconst (v := (-1 : Int32)) (pc := 89) C dX12_sitsDown_89 (by decide) ?_
          refine e_lv (lv2 := [(0, .ref M), (1, .int v1), (3, .int v3), (4, .int v4)]) [0, 1, 3, 4] rfl ?_
          exact W_90 (-1 : Int32) hf
      · refine e_icmp_ne (pc := 71) (tgt := 97) C dX12_sitsDown_71 (by decide) (fun _ => ?_) (fun q => absurd q c10)
        refine e_lv (lv2 := [(0, .ref M), (1, .int v1), (2, .int v2)]) [0, 1, 2] rfl ?_
        exact hK_97 v2 w hf
set_option maxHeartbeats 4000000 in
set_option maxRecDepth 100000 in
theorem pt_X12_sitsDown {G : GG} {l : Launch} {M : Nat} {h : AH} (hI : MI h M) {v1 : Int32} {w : MS} {y : MS} (hf : p_X12_sitsDown G v1 w = some y) : Ct G l yX12_sitsDown cX12_sitsDown 5 none 2 43 0 0 [.ref M, .int v1] (mh h M w) (none, mh h M y) := by
  refine ct_of (by decide) (Nat.le_of_ble_eq_true rfl) ?_
  intro p e s m args below meth c C hm hr hin
  have C : Cx G cX12_sitsDown RX12 p s m args meth c := C
  refine e_lv (lv2 := [(0, .ref M), (1, .int v1)]) [0, 1] rfl ?_
  unfold p_X12_sitsDown at hf
  refine e_aload_n (pc := 0) C dX12_sitsDown_0 0 rfl rfl ?_
  refine e_iload_n (pc := 1) C dX12_sitsDown_1 1 rfl rfl ?_
  refine e_aload_n (pc := 2) C dX12_sitsDown_2 0 rfl rfl ?_
  refine q_getr (pc := 3) 3 hI C dX12_sitsDown_3 (by decide) g1404 rfl rfl ?_
  refine e_iload_n (pc := 6) C dX12_sitsDown_6 1 rfl rfl ?_
  obtain ⟨q1, hf⟩ := ck_e hf
  refine q_iald (pc := 7) (k := 3) hI C dX12_sitsDown_7 rfl (ixn_e q1) ?_
  obtain ⟨r4, w2, y3, hf⟩ := cw_e hf
  refine e_callVi (pc := 8) (st := []) 12 C (pt_X12_maySit hI y3) dX12_sitsDown_8 (by decide) hI.1 g1767 g1769 g74 g157 g1770 hd_X12_maySit rfl ⟨Nat.le_of_ble_eq_true rfl, Nat.le_of_ble_eq_true rfl⟩ ⟨Nat.le_of_ble_eq_true rfl, Nat.le_of_ble_eq_true rfl⟩ rfl (Nat.le_of_ble_eq_true rfl) ?_
  obtain ⟨j_38, ej_38, hf⟩ := nn_e hf
  have W_38 : ∀ (s0_38 : Int32) (h_38 : MS), j_38 s0_38 h_38 = some y → EE G p l e ({ frames := 2, cells := 0, slots := 0, locals := 43 } : Room) s m args below meth c (none, mh h M y) 0 0 38 [(0, .ref M), (1, .int v1)] [.int s0_38] (mh h M h_38) 0 0 := by
    intro s0_38 h_38 hf
    rw [ej_38] at hf
    refine e_istore_n (pc := 38) (lv2 := [(2, .int s0_38), (0, .ref M), (1, .int v1)]) C hm dX12_sitsDown_38 rfl (by decide) rfl ?_
    refine e_aload_n (pc := 39) C dX12_sitsDown_39 1 rfl rfl ?_
    refine q_getr (pc := 40) 1 hI C dX12_sitsDown_40 (by decide) g1402 rfl rfl ?_
    refine e_bipush (v := (7 : Int32)) (pc := 43) C dX12_sitsDown_43 (by decide) ?_
    obtain ⟨q5, hf⟩ := ck_e hf
    refine q_iald (pc := 45) (k := 1) hI C dX12_sitsDown_45 rfl (ixn_e q5) ?_
    refine e_iload_n (pc := 46) C dX12_sitsDown_46 2 rfl rfl ?_
    obtain ⟨r8, w6, y7, hf⟩ := cw_e hf
    refine e_callSi (pc := 47) (st := []) C (pt_X12_has hI y7) dX12_sitsDown_47 g1771 g1772 g157 g1773 hd_X12_has rfl ⟨Nat.le_of_ble_eq_true rfl, Nat.le_of_ble_eq_true rfl⟩ ⟨Nat.le_of_ble_eq_true rfl, Nat.le_of_ble_eq_true rfl⟩ rfl (Nat.le_of_ble_eq_true rfl) ?_
    obtain ⟨j_59, ej_59, hf⟩ := nn_e hf
    have W_59 : ∀ (s0_59 : Int32), j_59 s0_59 = some y → EE G p l e ({ frames := 2, cells := 0, slots := 0, locals := 43 } : Room) s m args below meth c (none, mh h M y) 0 0 59 [(0, .ref M), (1, .int v1), (2, .int s0_38)] [.int s0_59] (mh h M w6) 0 0 := by
      intro s0_59 hf
      rw [ej_59] at hf
      refine e_istore_n (pc := 59) (lv2 := [(3, .int s0_59), (0, .ref M), (1, .int v1), (2, .int s0_38)]) C hm dX12_sitsDown_59 rfl (by decide) rfl ?_
      refine e_iconst (v := (0 : Int32)) (pc := 60) C dX12_sitsDown_60 (by decide) ?_
      refine e_istore (pc := 61) (lv2 := [(4, .int (0 : Int32)), (3, .int s0_59), (0, .ref M), (1, .int v1), (2, .int s0_38)]) C hm dX12_sitsDown_61 (by decide) rfl ?_
      refine e_lv (lv2 := [(0, .ref M), (1, .int v1), (2, .int s0_38), (3, .int s0_59), (4, .int (0 : Int32))]) [2, 3, 4, 1, 0] rfl ?_
      refine ep_X12_sitsDown_63 hI C hm hr hin (fun v2_97 h_97 hf => ?_) bN s0_38 (0 : Int32) w6 hf
      refine e_aload_n (pc := 97) C dX12_sitsDown_97 0 rfl rfl ?_
      refine q_getr (pc := 98) 10 hI C dX12_sitsDown_98 (by decide) g1411 rfl rfl ?_
      refine e_iload_n (pc := 101) C dX12_sitsDown_101 1 rfl rfl ?_
      refine e_iconst (v := (1 : Int32)) (pc := 102) C dX12_sitsDown_102 (by decide) ?_
      obtain ⟨q16, hf⟩ := ck_e hf
      refine q_iast (pc := 103) (k := 10) hI C dX12_sitsDown_103 rfl (ixn_e q16) ?_
      obtain ⟨w17, ew17, hf⟩ := nn_e hf
      refine q_hp ew17 ?_
      refine e_aload_n (pc := 104) C dX12_sitsDown_104 0 rfl rfl ?_
      refine q_getr (pc := 105) 9 hI C dX12_sitsDown_105 (by decide) g1410 rfl rfl ?_
      refine e_iload_n (pc := 108) C dX12_sitsDown_108 1 rfl rfl ?_
      refine e_iload_n (pc := 109) C dX12_sitsDown_109 2 rfl rfl ?_
      obtain ⟨q18, hf⟩ := ck_e hf
      refine q_iast (pc := 110) (k := 9) hI C dX12_sitsDown_110 rfl (ixn_e q18) ?_
      obtain ⟨w19, ew19, hf⟩ := nn_e hf
      refine q_hp ew19 ?_
      obtain rfl := so_e hf
      exact e_vret (pc := 111) C hr dX12_sitsDown_111 (Nat.le_of_ble_eq_true rfl) (Nat.le_of_ble_eq_true rfl)
    rcases it_e hf with ⟨c20, hf⟩ | ⟨c20, hf⟩
    · refine e_if_eq (pc := 50) (tgt := 57) C dX12_sitsDown_50 (by decide) (fun _ => ?_) (fun q => absurd c20 q)
      refine e_bipush (v := (7 : Int32)) (pc := 57) C dX12_sitsDown_57 (by decide) ?_
      refine e_lv (lv2 := [(0, .ref M), (1, .int v1), (2, .int s0_38)]) [1, 2, 0] rfl ?_
      exact W_59 (7 : Int32) hf
    · refine e_if_eq (pc := 50) (tgt := 57) C dX12_sitsDown_50 (by decide) (fun q => absurd q c20) (fun _ => ?_)
      refine e_iconst (v := (3 : Int32)) (pc := 53) C dX12_sitsDown_53 (by decide) ?_
      refine e_goto (pc := 54) (tgt := 59) C dX12_sitsDown_54 (by decide) ?_
      refine e_lv (lv2 := [(0, .ref M), (1, .int v1), (2, .int s0_38)]) [1, 2, 0] rfl ?_
      exact W_59 (3 : Int32) hf
  obtain ⟨j_37, ej_37, hf⟩ := nn_e hf
  have W_37 : ∀ (h_37 : MS), j_37 h_37 = some y → EE G p l e ({ frames := 2, cells := 0, slots := 0, locals := 43 } : Room) s m args below meth c (none, mh h M y) 0 0 37 [(0, .ref M), (1, .int v1)] [] (mh h M h_37) 0 0 := by
    intro h_37 hf
    rw [ej_37] at hf
    refine e_iconst (v := (-1 : Int32)) (pc := 37) C dX12_sitsDown_37 (by decide) ?_
    exact W_38 (-1 : Int32) h_37 hf
  rcases it_e hf with ⟨c21, hf⟩ | ⟨c21, hf⟩
  · refine e_if_eq (pc := 11) (tgt := 37) C dX12_sitsDown_11 (by decide) (fun _ => ?_) (fun q => absurd c21 q)
    exact W_37 w2 hf
  · refine e_if_eq (pc := 11) (tgt := 37) C dX12_sitsDown_11 (by decide) (fun q => absurd q c21) (fun _ => ?_)
    refine e_aload_n (pc := 14) C dX12_sitsDown_14 0 rfl rfl ?_
    refine e_aload_n (pc := 15) C dX12_sitsDown_15 0 rfl rfl ?_
    refine q_getr (pc := 16) 3 hI C dX12_sitsDown_16 (by decide) g1404 rfl rfl ?_
    refine e_iload_n (pc := 19) C dX12_sitsDown_19 1 rfl rfl ?_
    obtain ⟨q22, hf⟩ := ck_e hf
    refine q_iald (pc := 20) (k := 3) hI C dX12_sitsDown_20 rfl (ixn_e q22) ?_
    obtain ⟨r25, w23, y24, hf⟩ := cw_e hf
    refine e_callVi (pc := 21) (st := []) 12 C (pt_X12_sitterOf hI y24) dX12_sitsDown_21 (by decide) hI.1 g1774 g1776 g75 g157 g1777 hd_X12_sitterOf rfl ⟨Nat.le_of_ble_eq_true rfl, Nat.le_of_ble_eq_true rfl⟩ ⟨Nat.le_of_ble_eq_true rfl, Nat.le_of_ble_eq_true rfl⟩ rfl (Nat.le_of_ble_eq_true rfl) ?_
    refine e_iconst (v := (-1 : Int32)) (pc := 24) C dX12_sitsDown_24 (by decide) ?_
    rcases it_e hf with ⟨c26, hf⟩ | ⟨c26, hf⟩
    · refine e_icmp_ne (pc := 25) (tgt := 37) C dX12_sitsDown_25 (by decide) (fun q => absurd c26 q) (fun _ => ?_)
      refine e_aload_n (pc := 28) C dX12_sitsDown_28 0 rfl rfl ?_
      refine q_getr (pc := 29) 3 hI C dX12_sitsDown_29 (by decide) g1404 rfl rfl ?_
      refine e_iload_n (pc := 32) C dX12_sitsDown_32 1 rfl rfl ?_
      obtain ⟨q27, hf⟩ := ck_e hf
      refine q_iald (pc := 33) (k := 3) hI C dX12_sitsDown_33 rfl (ixn_e q27) ?_
      refine e_goto (pc := 34) (tgt := 38) C dX12_sitsDown_34 (by decide) ?_
      exact W_38 (w23.1 3 v1.toNatClampNeg) w23 hf
    · refine e_icmp_ne (pc := 25) (tgt := 37) C dX12_sitsDown_25 (by decide) (fun _ => ?_) (fun q => absurd q c26)
      exact W_37 w23 hf
theorem dX12_getIn_0 : decode cX12_getIn 0 = .ok (.iconst 0, 1) := by decide +kernel
theorem dX12_getIn_1 : decode cX12_getIn 1 = .ok (.istore_n 1, 1) := by decide +kernel
theorem dX12_getIn_2 : decode cX12_getIn 2 = .ok (.iload_n 1, 1) := by decide +kernel
theorem dX12_getIn_3 : decode cX12_getIn 3 = .ok (.aload_n 0, 1) := by decide +kernel
theorem dX12_getIn_4 : decode cX12_getIn 4 = .ok (.getfield 9, 3) := by decide +kernel
theorem dX12_getIn_7 : decode cX12_getIn 7 = .ok (.bipush 6, 2) := by decide +kernel
theorem dX12_getIn_9 : decode cX12_getIn 9 = .ok (.iaload, 1) := by decide +kernel
theorem dX12_getIn_10 : decode cX12_getIn 10 = .ok (.if_icmp .ge 30, 3) := by decide +kernel
theorem dX12_getIn_13 : decode cX12_getIn 13 = .ok (.aload_n 0, 1) := by decide +kernel
theorem dX12_getIn_14 : decode cX12_getIn 14 = .ok (.getfield 19, 3) := by decide +kernel
theorem dX12_getIn_17 : decode cX12_getIn 17 = .ok (.iload_n 1, 1) := by decide +kernel
theorem dX12_getIn_18 : decode cX12_getIn 18 = .ok (.iaload, 1) := by decide +kernel
theorem dX12_getIn_19 : decode cX12_getIn 19 = .ok (.aload_n 0, 1) := by decide +kernel
theorem dX12_getIn_20 : decode cX12_getIn 20 = .ok (.getfield 9, 3) := by decide +kernel
theorem dX12_getIn_23 : decode cX12_getIn 23 = .ok (.bipush 10, 2) := by decide +kernel
theorem dX12_getIn_25 : decode cX12_getIn 25 = .ok (.iaload, 1) := by decide +kernel
theorem dX12_getIn_26 : decode cX12_getIn 26 = .ok (.if_icmp .ne 8, 3) := by decide +kernel
theorem dX12_getIn_29 : decode cX12_getIn 29 = .ok (.aload_n 0, 1) := by decide +kernel
theorem dX12_getIn_30 : decode cX12_getIn 30 = .ok (.iload_n 1, 1) := by decide +kernel
theorem dX12_getIn_31 : decode cX12_getIn 31 = .ok (.invokevirtual 482, 3) := by decide +kernel
theorem dX12_getIn_34 : decode cX12_getIn 34 = .ok (.iinc 1 1, 3) := by decide +kernel
theorem dX12_getIn_37 : decode cX12_getIn 37 = .ok (.goto (-35), 3) := by decide +kernel
theorem dX12_getIn_40 : decode cX12_getIn 40 = .ok (.return_, 1) := by decide +kernel
def P_X12_getIn_2 (G : GG) (self_2 : Int32 → MS → Option (MS)) (v1 : Int32) (w : MS) : Option (MS) :=
ck (ixn 17 (6 : Int32) = true) <|
if (w.1 1 (6 : Int32).toNatClampNeg) ≤ v1 then (some w) else
ck (ixn 8 v1 = true) <|
ck (ixn 17 (10 : Int32) = true) <|
nn (fun (h_34 : MS) => (nn (v1 + (1 : Int32)) fun x5 =>
self_2 x5 h_34)) fun j_34 =>
if (w.1 4 v1.toNatClampNeg) = (w.1 1 (10 : Int32).toNatClampNeg) then (ob (p_X12_sitsDown G v1 w) fun w7 =>
j_34 w7) else
j_34 w
def p_X12_getIn (G : GG) (w : MS) : Option (MS) :=
lw1 (P_X12_getIn_2 G ) bN (0 : Int32) w
set_option maxHeartbeats 4000000 in
set_option maxRecDepth 100000 in
theorem ep_X12_getIn_2 {G : GG} {p : Program} {l : Launch} {e : Env} {s : State} {m : MethodId} {args : Array Value} {below : List Frame} {meth : Method} {c : Code} {y : MS} {M : Nat} {h : AH} (hI : MI h M) (C : Cx G cX12_getIn RX12 p s m args meth c) (hm : c.maxLocals = 2) (hr : meth.sig.returnType = none) (hin : meth.name = yX12_getIn.name)  :
    ∀ (n : Nat) (v1 : Int32) (w : MS), lw1 (P_X12_getIn_2 G) n v1 w = some y → EE G p l e ({ frames := 3, cells := 0, slots := 0, locals := 67 } : Room) s m args below meth c (none, mh h M y) 0 0 2 [(0, .ref M), (1, .int v1)] [] (mh h M w) 0 0 := by
  intro n
  induction n with
  | zero => intro v1 w hf; exact (no_e hf).elim
  | succ n ih_2 =>
    intro v1 w hf
    have hf : P_X12_getIn_2 G (lw1 (P_X12_getIn_2 G) n) v1 w = some y := hf
    generalize lw1 (P_X12_getIn_2 G) n = self_2 at hf ih_2
    unfold P_X12_getIn_2 at hf
    refine e_iload_n (pc := 2) C dX12_getIn_2 1 rfl rfl ?_
    refine e_aload_n (pc := 3) C dX12_getIn_3 0 rfl rfl ?_
    refine q_getr (pc := 4) 1 hI C dX12_getIn_4 (by decide) g1402 rfl rfl ?_
    refine e_bipush (v := (6 : Int32)) (pc := 7) C dX12_getIn_7 (by decide) ?_
    obtain ⟨q1, hf⟩ := ck_e hf
    refine q_iald (pc := 9) (k := 1) hI C dX12_getIn_9 rfl (ixn_e q1) ?_
    rcases it_e hf with ⟨c2, hf⟩ | ⟨c2, hf⟩
    · refine e_icmp_ge (pc := 10) (tgt := 40) C dX12_getIn_10 (by decide) (fun _ => ?_) (fun q => absurd c2 q)
      obtain rfl := so_e hf
      exact e_vret (pc := 40) C hr dX12_getIn_40 (Nat.le_of_ble_eq_true rfl) (Nat.le_of_ble_eq_true rfl)
    · refine e_icmp_ge (pc := 10) (tgt := 40) C dX12_getIn_10 (by decide) (fun q => absurd q c2) (fun _ => ?_)
      refine e_aload_n (pc := 13) C dX12_getIn_13 0 rfl rfl ?_
      refine q_getr (pc := 14) 4 hI C dX12_getIn_14 (by decide) g1405 rfl rfl ?_
      refine e_iload_n (pc := 17) C dX12_getIn_17 1 rfl rfl ?_
      obtain ⟨q3, hf⟩ := ck_e hf
      refine q_iald (pc := 18) (k := 4) hI C dX12_getIn_18 rfl (ixn_e q3) ?_
      refine e_aload_n (pc := 19) C dX12_getIn_19 0 rfl rfl ?_
      refine q_getr (pc := 20) 1 hI C dX12_getIn_20 (by decide) g1402 rfl rfl ?_
      refine e_bipush (v := (10 : Int32)) (pc := 23) C dX12_getIn_23 (by decide) ?_
      obtain ⟨q4, hf⟩ := ck_e hf
      refine q_iald (pc := 25) (k := 1) hI C dX12_getIn_25 rfl (ixn_e q4) ?_
      obtain ⟨j_34, ej_34, hf⟩ := nn_e hf
      have W_34 : ∀ (h_34 : MS), j_34 h_34 = some y → EE G p l e ({ frames := 3, cells := 0, slots := 0, locals := 67 } : Room) s m args below meth c (none, mh h M y) 0 0 34 [(0, .ref M), (1, .int v1)] [] (mh h M h_34) 0 0 := by
        intro h_34 hf
        rw [ej_34] at hf
        obtain ⟨x5, ex5, hf⟩ := nn_e hf
        refine e_iinc (pc := 34) (v := x5) (lv2 := [(1, .int x5), (0, .ref M)]) C hm dX12_getIn_34 1 rfl (by rw [ex5]; rfl) (by decide) rfl ?_
        refine e_goto (pc := 37) (tgt := 2) C dX12_getIn_37 (by decide) ?_
        refine e_lv (lv2 := [(0, .ref M), (1, .int x5)]) [1, 0] rfl ?_
        exact ih_2 x5 h_34 hf
      rcases it_e hf with ⟨c6, hf⟩ | ⟨c6, hf⟩
      · refine e_icmp_ne (pc := 26) (tgt := 34) C dX12_getIn_26 (by decide) (fun q => absurd c6 q) (fun _ => ?_)
        refine e_aload_n (pc := 29) C dX12_getIn_29 0 rfl rfl ?_
        refine e_iload_n (pc := 30) C dX12_getIn_30 1 rfl rfl ?_
        obtain ⟨w7, y8, hf⟩ := ob_e hf
        refine e_callVv (pc := 31) (st := []) 12 C (pt_X12_sitsDown hI y8) dX12_getIn_31 (by decide) hI.1 g1763 g1765 g73 g157 g1766 hd_X12_sitsDown rfl ⟨Nat.le_of_ble_eq_true rfl, Nat.le_of_ble_eq_true rfl⟩ ⟨Nat.le_of_ble_eq_true rfl, Nat.le_of_ble_eq_true rfl⟩ rfl (Nat.le_of_ble_eq_true rfl) ?_
        exact W_34 w7 hf
      · refine e_icmp_ne (pc := 26) (tgt := 34) C dX12_getIn_26 (by decide) (fun _ => ?_) (fun q => absurd q c6)
        exact W_34 w hf
set_option maxHeartbeats 4000000 in
set_option maxRecDepth 100000 in
theorem pt_X12_getIn {G : GG} {l : Launch} {M : Nat} {h : AH} (hI : MI h M) {w : MS} {y : MS} (hf : p_X12_getIn G w = some y) : Ct G l yX12_getIn cX12_getIn 2 none 3 67 0 0 [.ref M] (mh h M w) (none, mh h M y) := by
  refine ct_of (by decide) (Nat.le_of_ble_eq_true rfl) ?_
  intro p e s m args below meth c C hm hr hin
  have C : Cx G cX12_getIn RX12 p s m args meth c := C
  refine e_lv (lv2 := [(0, .ref M)]) [0] rfl ?_
  unfold p_X12_getIn at hf
  refine e_iconst (v := (0 : Int32)) (pc := 0) C dX12_getIn_0 (by decide) ?_
  refine e_istore_n (pc := 1) (lv2 := [(1, .int (0 : Int32)), (0, .ref M)]) C hm dX12_getIn_1 rfl (by decide) rfl ?_
  refine e_lv (lv2 := [(0, .ref M), (1, .int (0 : Int32))]) [1, 0] rfl ?_
  exact ep_X12_getIn_2 hI C hm hr hin bN (0 : Int32) w hf
theorem dX12_train_0 : decode cX12_train 0 = .ok (.aload_n 0, 1) := by decide +kernel
theorem dX12_train_1 : decode cX12_train 1 = .ok (.invokevirtual 383, 3) := by decide +kernel
theorem dX12_train_4 : decode cX12_train 4 = .ok (.aload_n 0, 1) := by decide +kernel
theorem dX12_train_5 : decode cX12_train 5 = .ok (.getfield 243, 3) := by decide +kernel
theorem dX12_train_8 : decode cX12_train 8 = .ok (.ifCond .le 11, 3) := by decide +kernel
theorem dX12_train_11 : decode cX12_train 11 = .ok (.bipush (-2), 2) := by decide +kernel
theorem dX12_train_13 : decode cX12_train 13 = .ok (.aload_n 0, 1) := by decide +kernel
theorem dX12_train_14 : decode cX12_train 14 = .ok (.getfield 243, 3) := by decide +kernel
theorem dX12_train_17 : decode cX12_train 17 = .ok (.isub, 1) := by decide +kernel
theorem dX12_train_18 : decode cX12_train 18 = .ok (.ireturn, 1) := by decide +kernel
theorem dX12_train_19 : decode cX12_train 19 = .ok (.iconst 0, 1) := by decide +kernel
theorem dX12_train_20 : decode cX12_train 20 = .ok (.istore_n 1, 1) := by decide +kernel
theorem dX12_train_21 : decode cX12_train 21 = .ok (.iload_n 1, 1) := by decide +kernel
theorem dX12_train_22 : decode cX12_train 22 = .ok (.bipush 15, 2) := by decide +kernel
theorem dX12_train_24 : decode cX12_train 24 = .ok (.if_icmp .ge 31, 3) := by decide +kernel
theorem dX12_train_27 : decode cX12_train 27 = .ok (.aload_n 0, 1) := by decide +kernel
theorem dX12_train_28 : decode cX12_train 28 = .ok (.getfield 9, 3) := by decide +kernel
theorem dX12_train_31 : decode cX12_train 31 = .ok (.iload_n 1, 1) := by decide +kernel
theorem dX12_train_32 : decode cX12_train 32 = .ok (.iload_n 1, 1) := by decide +kernel
theorem dX12_train_33 : decode cX12_train 33 = .ok (.bipush 10, 2) := by decide +kernel
theorem dX12_train_35 : decode cX12_train 35 = .ok (.if_icmp .ge 12, 3) := by decide +kernel
theorem dX12_train_38 : decode cX12_train 38 = .ok (.aload_n 0, 1) := by decide +kernel
theorem dX12_train_39 : decode cX12_train 39 = .ok (.getfield 67, 3) := by decide +kernel
theorem dX12_train_42 : decode cX12_train 42 = .ok (.iload_n 1, 1) := by decide +kernel
theorem dX12_train_43 : decode cX12_train 43 = .ok (.iaload, 1) := by decide +kernel
theorem dX12_train_44 : decode cX12_train 44 = .ok (.goto 4, 3) := by decide +kernel
theorem dX12_train_47 : decode cX12_train 47 = .ok (.iconst 0, 1) := by decide +kernel
theorem dX12_train_48 : decode cX12_train 48 = .ok (.iastore, 1) := by decide +kernel
theorem dX12_train_49 : decode cX12_train 49 = .ok (.iinc 1 1, 3) := by decide +kernel
theorem dX12_train_52 : decode cX12_train 52 = .ok (.goto (-31), 3) := by decide +kernel
theorem dX12_train_55 : decode cX12_train 55 = .ok (.aload_n 0, 1) := by decide +kernel
theorem dX12_train_56 : decode cX12_train 56 = .ok (.getfield 70, 3) := by decide +kernel
theorem dX12_train_59 : decode cX12_train 59 = .ok (.aload_n 0, 1) := by decide +kernel
theorem dX12_train_60 : decode cX12_train 60 = .ok (.getfield 16, 3) := by decide +kernel
theorem dX12_train_63 : decode cX12_train 63 = .ok (.invokestatic 386, 3) := by decide +kernel
theorem dX12_train_66 : decode cX12_train 66 = .ok (.aload_n 0, 1) := by decide +kernel
theorem dX12_train_67 : decode cX12_train 67 = .ok (.getfield 73, 3) := by decide +kernel
theorem dX12_train_70 : decode cX12_train 70 = .ok (.aload_n 0, 1) := by decide +kernel
theorem dX12_train_71 : decode cX12_train 71 = .ok (.getfield 19, 3) := by decide +kernel
theorem dX12_train_74 : decode cX12_train 74 = .ok (.invokestatic 386, 3) := by decide +kernel
theorem dX12_train_77 : decode cX12_train 77 = .ok (.aload_n 0, 1) := by decide +kernel
theorem dX12_train_78 : decode cX12_train 78 = .ok (.getfield 76, 3) := by decide +kernel
theorem dX12_train_81 : decode cX12_train 81 = .ok (.aload_n 0, 1) := by decide +kernel
theorem dX12_train_82 : decode cX12_train 82 = .ok (.getfield 22, 3) := by decide +kernel
theorem dX12_train_85 : decode cX12_train 85 = .ok (.invokestatic 386, 3) := by decide +kernel
theorem dX12_train_88 : decode cX12_train 88 = .ok (.aload_n 0, 1) := by decide +kernel
theorem dX12_train_89 : decode cX12_train 89 = .ok (.getfield 79, 3) := by decide +kernel
theorem dX12_train_92 : decode cX12_train 92 = .ok (.aload_n 0, 1) := by decide +kernel
theorem dX12_train_93 : decode cX12_train 93 = .ok (.getfield 25, 3) := by decide +kernel
theorem dX12_train_96 : decode cX12_train 96 = .ok (.invokestatic 386, 3) := by decide +kernel
theorem dX12_train_99 : decode cX12_train 99 = .ok (.aload_n 0, 1) := by decide +kernel
theorem dX12_train_100 : decode cX12_train 100 = .ok (.getfield 82, 3) := by decide +kernel
theorem dX12_train_103 : decode cX12_train 103 = .ok (.aload_n 0, 1) := by decide +kernel
theorem dX12_train_104 : decode cX12_train 104 = .ok (.getfield 28, 3) := by decide +kernel
theorem dX12_train_107 : decode cX12_train 107 = .ok (.invokestatic 386, 3) := by decide +kernel
theorem dX12_train_110 : decode cX12_train 110 = .ok (.aload_n 0, 1) := by decide +kernel
theorem dX12_train_111 : decode cX12_train 111 = .ok (.getfield 85, 3) := by decide +kernel
theorem dX12_train_114 : decode cX12_train 114 = .ok (.aload_n 0, 1) := by decide +kernel
theorem dX12_train_115 : decode cX12_train 115 = .ok (.getfield 31, 3) := by decide +kernel
theorem dX12_train_118 : decode cX12_train 118 = .ok (.invokestatic 386, 3) := by decide +kernel
theorem dX12_train_121 : decode cX12_train 121 = .ok (.aload_n 0, 1) := by decide +kernel
theorem dX12_train_122 : decode cX12_train 122 = .ok (.getfield 88, 3) := by decide +kernel
theorem dX12_train_125 : decode cX12_train 125 = .ok (.aload_n 0, 1) := by decide +kernel
theorem dX12_train_126 : decode cX12_train 126 = .ok (.getfield 46, 3) := by decide +kernel
theorem dX12_train_129 : decode cX12_train 129 = .ok (.invokestatic 386, 3) := by decide +kernel
theorem dX12_train_132 : decode cX12_train 132 = .ok (.aload_n 0, 1) := by decide +kernel
theorem dX12_train_133 : decode cX12_train 133 = .ok (.getfield 91, 3) := by decide +kernel
theorem dX12_train_136 : decode cX12_train 136 = .ok (.aload_n 0, 1) := by decide +kernel
theorem dX12_train_137 : decode cX12_train 137 = .ok (.getfield 49, 3) := by decide +kernel
theorem dX12_train_140 : decode cX12_train 140 = .ok (.invokestatic 386, 3) := by decide +kernel
theorem dX12_train_143 : decode cX12_train 143 = .ok (.aload_n 0, 1) := by decide +kernel
theorem dX12_train_144 : decode cX12_train 144 = .ok (.getfield 94, 3) := by decide +kernel
theorem dX12_train_147 : decode cX12_train 147 = .ok (.aload_n 0, 1) := by decide +kernel
theorem dX12_train_148 : decode cX12_train 148 = .ok (.getfield 52, 3) := by decide +kernel
theorem dX12_train_151 : decode cX12_train 151 = .ok (.invokestatic 386, 3) := by decide +kernel
theorem dX12_train_154 : decode cX12_train 154 = .ok (.aload_n 0, 1) := by decide +kernel
theorem dX12_train_155 : decode cX12_train 155 = .ok (.getfield 97, 3) := by decide +kernel
theorem dX12_train_158 : decode cX12_train 158 = .ok (.aload_n 0, 1) := by decide +kernel
theorem dX12_train_159 : decode cX12_train 159 = .ok (.getfield 55, 3) := by decide +kernel
theorem dX12_train_162 : decode cX12_train 162 = .ok (.invokestatic 386, 3) := by decide +kernel
theorem dX12_train_165 : decode cX12_train 165 = .ok (.aload_n 0, 1) := by decide +kernel
theorem dX12_train_166 : decode cX12_train 166 = .ok (.getfield 100, 3) := by decide +kernel
theorem dX12_train_169 : decode cX12_train 169 = .ok (.aload_n 0, 1) := by decide +kernel
theorem dX12_train_170 : decode cX12_train 170 = .ok (.getfield 58, 3) := by decide +kernel
theorem dX12_train_173 : decode cX12_train 173 = .ok (.invokestatic 386, 3) := by decide +kernel
theorem dX12_train_176 : decode cX12_train 176 = .ok (.aload_n 0, 1) := by decide +kernel
theorem dX12_train_177 : decode cX12_train 177 = .ok (.getfield 9, 3) := by decide +kernel
theorem dX12_train_180 : decode cX12_train 180 = .ok (.bipush 11, 2) := by decide +kernel
theorem dX12_train_182 : decode cX12_train 182 = .ok (.aload_n 0, 1) := by decide +kernel
theorem dX12_train_183 : decode cX12_train 183 = .ok (.getfield 9, 3) := by decide +kernel
theorem dX12_train_186 : decode cX12_train 186 = .ok (.iconst 1, 1) := by decide +kernel
theorem dX12_train_187 : decode cX12_train 187 = .ok (.iaload, 1) := by decide +kernel
theorem dX12_train_188 : decode cX12_train 188 = .ok (.iastore, 1) := by decide +kernel
theorem dX12_train_189 : decode cX12_train 189 = .ok (.aload_n 0, 1) := by decide +kernel
theorem dX12_train_190 : decode cX12_train 190 = .ok (.getfield 9, 3) := by decide +kernel
theorem dX12_train_193 : decode cX12_train 193 = .ok (.bipush 12, 2) := by decide +kernel
theorem dX12_train_195 : decode cX12_train 195 = .ok (.aload_n 0, 1) := by decide +kernel
theorem dX12_train_196 : decode cX12_train 196 = .ok (.getfield 9, 3) := by decide +kernel
theorem dX12_train_199 : decode cX12_train 199 = .ok (.iconst 2, 1) := by decide +kernel
theorem dX12_train_200 : decode cX12_train 200 = .ok (.iaload, 1) := by decide +kernel
theorem dX12_train_201 : decode cX12_train 201 = .ok (.iastore, 1) := by decide +kernel
theorem dX12_train_202 : decode cX12_train 202 = .ok (.aload_n 0, 1) := by decide +kernel
theorem dX12_train_203 : decode cX12_train 203 = .ok (.getfield 9, 3) := by decide +kernel
theorem dX12_train_206 : decode cX12_train 206 = .ok (.bipush 13, 2) := by decide +kernel
theorem dX12_train_208 : decode cX12_train 208 = .ok (.aload_n 0, 1) := by decide +kernel
theorem dX12_train_209 : decode cX12_train 209 = .ok (.getfield 9, 3) := by decide +kernel
theorem dX12_train_212 : decode cX12_train 212 = .ok (.iconst 4, 1) := by decide +kernel
theorem dX12_train_213 : decode cX12_train 213 = .ok (.iaload, 1) := by decide +kernel
theorem dX12_train_214 : decode cX12_train 214 = .ok (.iastore, 1) := by decide +kernel
theorem dX12_train_215 : decode cX12_train 215 = .ok (.iconst 0, 1) := by decide +kernel
theorem dX12_train_216 : decode cX12_train 216 = .ok (.istore_n 1, 1) := by decide +kernel
theorem dX12_train_217 : decode cX12_train 217 = .ok (.iload_n 1, 1) := by decide +kernel
theorem dX12_train_218 : decode cX12_train 218 = .ok (.bipush 7, 2) := by decide +kernel
theorem dX12_train_220 : decode cX12_train 220 = .ok (.if_icmp .ge 21, 3) := by decide +kernel
theorem dX12_train_223 : decode cX12_train 223 = .ok (.aload_n 0, 1) := by decide +kernel
theorem dX12_train_224 : decode cX12_train 224 = .ok (.getfield 13, 3) := by decide +kernel
theorem dX12_train_227 : decode cX12_train 227 = .ok (.iload_n 1, 1) := by decide +kernel
theorem dX12_train_228 : decode cX12_train 228 = .ok (.aload_n 0, 1) := by decide +kernel
theorem dX12_train_229 : decode cX12_train 229 = .ok (.getfield 9, 3) := by decide +kernel
theorem dX12_train_232 : decode cX12_train 232 = .ok (.iconst 2, 1) := by decide +kernel
theorem dX12_train_233 : decode cX12_train 233 = .ok (.iaload, 1) := by decide +kernel
theorem dX12_train_234 : decode cX12_train 234 = .ok (.iastore, 1) := by decide +kernel
theorem dX12_train_235 : decode cX12_train 235 = .ok (.iinc 1 1, 3) := by decide +kernel
theorem dX12_train_238 : decode cX12_train 238 = .ok (.goto (-21), 3) := by decide +kernel
theorem dX12_train_241 : decode cX12_train 241 = .ok (.iconst 0, 1) := by decide +kernel
theorem dX12_train_242 : decode cX12_train 242 = .ok (.istore_n 1, 1) := by decide +kernel
theorem dX12_train_243 : decode cX12_train 243 = .ok (.iload_n 1, 1) := by decide +kernel
theorem dX12_train_244 : decode cX12_train 244 = .ok (.bipush 8, 2) := by decide +kernel
theorem dX12_train_246 : decode cX12_train 246 = .ok (.if_icmp .ge 37, 3) := by decide +kernel
theorem dX12_train_249 : decode cX12_train 249 = .ok (.aload_n 0, 1) := by decide +kernel
theorem dX12_train_250 : decode cX12_train 250 = .ok (.getfield 34, 3) := by decide +kernel
theorem dX12_train_253 : decode cX12_train 253 = .ok (.iload_n 1, 1) := by decide +kernel
theorem dX12_train_254 : decode cX12_train 254 = .ok (.iconst (-1), 1) := by decide +kernel
theorem dX12_train_255 : decode cX12_train 255 = .ok (.iastore, 1) := by decide +kernel
theorem dX12_train_256 : decode cX12_train 256 = .ok (.aload_n 0, 1) := by decide +kernel
theorem dX12_train_257 : decode cX12_train 257 = .ok (.getfield 37, 3) := by decide +kernel
theorem dX12_train_260 : decode cX12_train 260 = .ok (.iload_n 1, 1) := by decide +kernel
theorem dX12_train_261 : decode cX12_train 261 = .ok (.iconst 0, 1) := by decide +kernel
theorem dX12_train_262 : decode cX12_train 262 = .ok (.iastore, 1) := by decide +kernel
theorem dX12_train_263 : decode cX12_train 263 = .ok (.aload_n 0, 1) := by decide +kernel
theorem dX12_train_264 : decode cX12_train 264 = .ok (.getfield 40, 3) := by decide +kernel
theorem dX12_train_267 : decode cX12_train 267 = .ok (.iload_n 1, 1) := by decide +kernel
theorem dX12_train_268 : decode cX12_train 268 = .ok (.iconst 0, 1) := by decide +kernel
theorem dX12_train_269 : decode cX12_train 269 = .ok (.iastore, 1) := by decide +kernel
theorem dX12_train_270 : decode cX12_train 270 = .ok (.aload_n 0, 1) := by decide +kernel
theorem dX12_train_271 : decode cX12_train 271 = .ok (.getfield 43, 3) := by decide +kernel
theorem dX12_train_274 : decode cX12_train 274 = .ok (.iload_n 1, 1) := by decide +kernel
theorem dX12_train_275 : decode cX12_train 275 = .ok (.iconst 0, 1) := by decide +kernel
theorem dX12_train_276 : decode cX12_train 276 = .ok (.iastore, 1) := by decide +kernel
theorem dX12_train_277 : decode cX12_train 277 = .ok (.iinc 1 1, 3) := by decide +kernel
theorem dX12_train_280 : decode cX12_train 280 = .ok (.goto (-37), 3) := by decide +kernel
theorem dX12_train_283 : decode cX12_train 283 = .ok (.aload_n 0, 1) := by decide +kernel
theorem dX12_train_284 : decode cX12_train 284 = .ok (.invokevirtual 390, 3) := by decide +kernel
theorem dX12_train_287 : decode cX12_train 287 = .ok (.aload_n 0, 1) := by decide +kernel
theorem dX12_train_288 : decode cX12_train 288 = .ok (.iconst 0, 1) := by decide +kernel
theorem dX12_train_289 : decode cX12_train 289 = .ok (.putfield 393, 3) := by decide +kernel
theorem dX12_train_292 : decode cX12_train 292 = .ok (.aload_n 0, 1) := by decide +kernel
theorem dX12_train_293 : decode cX12_train 293 = .ok (.getfield 9, 3) := by decide +kernel
theorem dX12_train_296 : decode cX12_train 296 = .ok (.bipush 6, 2) := by decide +kernel
theorem dX12_train_298 : decode cX12_train 298 = .ok (.iaload, 1) := by decide +kernel
theorem dX12_train_299 : decode cX12_train 299 = .ok (.ireturn, 1) := by decide +kernel
def P_X12_train_21 (G : GG) (K_55 : MS → Option (Int32 × MS)) (self_21 : Int32 → MS → Option (Int32 × MS)) (v1 : Int32) (w : MS) : Option (Int32 × MS) :=
if (15 : Int32) ≤ v1 then (K_55 w) else
nn (fun (s0_48 : Int32) => (ck (ixn 17 v1 = true) <|
nn (w_si w 1 v1.toNatClampNeg s0_48) fun w6 =>
nn (v1 + (1 : Int32)) fun x7 =>
self_21 x7 w6)) fun j_48 =>
if (10 : Int32) ≤ v1 then (j_48 (0 : Int32)) else
ck (ixn 10 v1 = true) <|
j_48 (w.1 20 v1.toNatClampNeg)
def P_X12_train_217 (G : GG) (K_241 : MS → Option (Int32 × MS)) (self_217 : Int32 → MS → Option (Int32 × MS)) (v1 : Int32) (w : MS) : Option (Int32 × MS) :=
if (7 : Int32) ≤ v1 then (K_241 w) else
ck (ixn 17 (2 : Int32) = true) <|
ck (ixn 7 v1 = true) <|
nn (w_si w 2 v1.toNatClampNeg (w.1 1 (2 : Int32).toNatClampNeg)) fun w44 =>
nn (v1 + (1 : Int32)) fun x45 =>
self_217 x45 w44
def P_X12_train_243 (G : GG) (K_283 : MS → Option (Int32 × MS)) (self_243 : Int32 → MS → Option (Int32 × MS)) (v1 : Int32) (w : MS) : Option (Int32 × MS) :=
if (8 : Int32) ≤ v1 then (K_283 w) else
ck (ixn 8 v1 = true) <|
nn (w_si w 9 v1.toNatClampNeg (-1 : Int32)) fun w48 =>
ck (ixn 8 v1 = true) <|
nn (w_si w48 10 v1.toNatClampNeg (0 : Int32)) fun w50 =>
ck (ixn 8 v1 = true) <|
nn (w_si w50 11 v1.toNatClampNeg (0 : Int32)) fun w52 =>
ck (ixn 8 v1 = true) <|
nn (w_si w52 12 v1.toNatClampNeg (0 : Int32)) fun w54 =>
nn (v1 + (1 : Int32)) fun x55 =>
self_243 x55 w54
def p_X12_train (G : GG) (w : MS) : Option (Int32 × MS) :=
ob (p_X12_readsAll G w) fun w1 =>
if (w1.1 0 34) ≤ 0 then (lw1 (P_X12_train_21 G (fun (h_55 : MS) => (ob (p_X12_copies G 21 3 h_55) fun w10 =>
ob (p_X12_copies G 22 4 w10) fun w12 =>
ob (p_X12_copies G 23 5 w12) fun w14 =>
ob (p_X12_copies G 24 6 w14) fun w16 =>
ob (p_X12_copies G 25 7 w16) fun w18 =>
ob (p_X12_copies G 26 8 w18) fun w20 =>
ob (p_X12_copies G 27 13 w20) fun w22 =>
ob (p_X12_copies G 28 14 w22) fun w24 =>
ob (p_X12_copies G 29 15 w24) fun w26 =>
ob (p_X12_copies G 30 16 w26) fun w28 =>
ob (p_X12_copies G 31 17 w28) fun w30 =>
ck (ixn 17 (1 : Int32) = true) <|
ck (ixn 17 (11 : Int32) = true) <|
nn (w_si w30 1 (11 : Int32).toNatClampNeg (w30.1 1 (1 : Int32).toNatClampNeg)) fun w34 =>
ck (ixn 17 (2 : Int32) = true) <|
ck (ixn 17 (12 : Int32) = true) <|
nn (w_si w34 1 (12 : Int32).toNatClampNeg (w34.1 1 (2 : Int32).toNatClampNeg)) fun w37 =>
ck (ixn 17 (4 : Int32) = true) <|
ck (ixn 17 (13 : Int32) = true) <|
nn (w_si w37 1 (13 : Int32).toNatClampNeg (w37.1 1 (4 : Int32).toNatClampNeg)) fun w40 =>
lw1 (P_X12_train_217 G (fun (h_241 : MS) => (lw1 (P_X12_train_243 G (fun (h_283 : MS) => (ob (p_X12_getIn G h_283) fun w56 =>
nn (w_si w56 0 55 (0 : Int32)) fun w58 =>
ck (ixn 17 (6 : Int32) = true) <|
some (w58.1 1 (6 : Int32).toNatClampNeg, w58)))) bN (0 : Int32) h_241))) bN (0 : Int32) w40))) bN (0 : Int32) w1) else
some ((-2 : Int32) - (w1.1 0 34), w1)
set_option maxHeartbeats 4000000 in
set_option maxRecDepth 100000 in
theorem ep_X12_train_21 {G : GG} {p : Program} {l : Launch} {e : Env} {s : State} {m : MethodId} {args : Array Value} {below : List Frame} {meth : Method} {c : Code} {y : Int32 × MS} {M : Nat} {h : AH} (hI : MI h M) (C : Cx G cX12_train RX12 p s m args meth c) (hm : c.maxLocals = 2) (hr : meth.sig.returnType = (some .int)) (hin : meth.name = yX12_train.name) {K_55 : MS → Option (Int32 × MS)} (hK_55 : ∀ (w : MS), K_55 w = some y → EE G p l e ({ frames := 8, cells := 0, slots := 0, locals := 181 } : Room) s m args below meth c (some (.int y.1), mh h M y.2) 0 0 55 [(0, .ref M)] [] (mh h M w) 0 0) :
    ∀ (n : Nat) (v1 : Int32) (w : MS), lw1 (P_X12_train_21 G K_55) n v1 w = some y → EE G p l e ({ frames := 8, cells := 0, slots := 0, locals := 181 } : Room) s m args below meth c (some (.int y.1), mh h M y.2) 0 0 21 [(0, .ref M), (1, .int v1)] [] (mh h M w) 0 0 := by
  intro n
  induction n with
  | zero => intro v1 w hf; exact (no_e hf).elim
  | succ n ih_21 =>
    intro v1 w hf
    have hf : P_X12_train_21 G K_55 (lw1 (P_X12_train_21 G K_55) n) v1 w = some y := hf
    generalize lw1 (P_X12_train_21 G K_55) n = self_21 at hf ih_21
    unfold P_X12_train_21 at hf
    refine e_iload_n (pc := 21) C dX12_train_21 1 rfl rfl ?_
    refine e_bipush (v := (15 : Int32)) (pc := 22) C dX12_train_22 (by decide) ?_
    rcases it_e hf with ⟨c4, hf⟩ | ⟨c4, hf⟩
    · refine e_icmp_ge (pc := 24) (tgt := 55) C dX12_train_24 (by decide) (fun _ => ?_) (fun q => absurd c4 q)
      refine e_lv (lv2 := [(0, .ref M)]) [0] rfl ?_
      exact hK_55 w hf
    · refine e_icmp_ge (pc := 24) (tgt := 55) C dX12_train_24 (by decide) (fun q => absurd q c4) (fun _ => ?_)
      refine e_aload_n (pc := 27) C dX12_train_27 0 rfl rfl ?_
      refine q_getr (pc := 28) 1 hI C dX12_train_28 (by decide) g1402 rfl rfl ?_
      refine e_iload_n (pc := 31) C dX12_train_31 1 rfl rfl ?_
      refine e_iload_n (pc := 32) C dX12_train_32 1 rfl rfl ?_
      refine e_bipush (v := (10 : Int32)) (pc := 33) C dX12_train_33 (by decide) ?_
      obtain ⟨j_48, ej_48, hf⟩ := nn_e hf
      have W_48 : ∀ (s0_48 : Int32), j_48 s0_48 = some y → EE G p l e ({ frames := 8, cells := 0, slots := 0, locals := 181 } : Room) s m args below meth c (some (.int y.1), mh h M y.2) 0 0 48 [(0, .ref M), (1, .int v1)] [.int s0_48, .int v1, .ref (M + mofs 1)] (mh h M w) 0 0 := by
        intro s0_48 hf
        rw [ej_48] at hf
        obtain ⟨q5, hf⟩ := ck_e hf
        refine q_iast (pc := 48) (k := 1) hI C dX12_train_48 rfl (ixn_e q5) ?_
        obtain ⟨w6, ew6, hf⟩ := nn_e hf
        refine q_hp ew6 ?_
        obtain ⟨x7, ex7, hf⟩ := nn_e hf
        refine e_iinc (pc := 49) (v := x7) (lv2 := [(1, .int x7), (0, .ref M)]) C hm dX12_train_49 1 rfl (by rw [ex7]; rfl) (by decide) rfl ?_
        refine e_goto (pc := 52) (tgt := 21) C dX12_train_52 (by decide) ?_
        refine e_lv (lv2 := [(0, .ref M), (1, .int x7)]) [1, 0] rfl ?_
        exact ih_21 x7 w6 hf
      rcases it_e hf with ⟨c8, hf⟩ | ⟨c8, hf⟩
      · refine e_icmp_ge (pc := 35) (tgt := 47) C dX12_train_35 (by decide) (fun _ => ?_) (fun q => absurd c8 q)
        refine e_iconst (v := (0 : Int32)) (pc := 47) C dX12_train_47 (by decide) ?_
        exact W_48 (0 : Int32) hf
      · refine e_icmp_ge (pc := 35) (tgt := 47) C dX12_train_35 (by decide) (fun q => absurd q c8) (fun _ => ?_)
        refine e_aload_n (pc := 38) C dX12_train_38 0 rfl rfl ?_
        refine q_getr (pc := 39) 20 hI C dX12_train_39 (by decide) g1421 rfl rfl ?_
        refine e_iload_n (pc := 42) C dX12_train_42 1 rfl rfl ?_
        obtain ⟨q9, hf⟩ := ck_e hf
        refine q_iald (pc := 43) (k := 20) hI C dX12_train_43 rfl (ixn_e q9) ?_
        refine e_goto (pc := 44) (tgt := 48) C dX12_train_44 (by decide) ?_
        exact W_48 (w.1 20 v1.toNatClampNeg) hf
set_option maxHeartbeats 4000000 in
set_option maxRecDepth 100000 in
theorem ep_X12_train_217 {G : GG} {p : Program} {l : Launch} {e : Env} {s : State} {m : MethodId} {args : Array Value} {below : List Frame} {meth : Method} {c : Code} {y : Int32 × MS} {M : Nat} {h : AH} (hI : MI h M) (C : Cx G cX12_train RX12 p s m args meth c) (hm : c.maxLocals = 2) (hr : meth.sig.returnType = (some .int)) (hin : meth.name = yX12_train.name) {K_241 : MS → Option (Int32 × MS)} (hK_241 : ∀ (w : MS), K_241 w = some y → EE G p l e ({ frames := 8, cells := 0, slots := 0, locals := 181 } : Room) s m args below meth c (some (.int y.1), mh h M y.2) 0 0 241 [(0, .ref M)] [] (mh h M w) 0 0) :
    ∀ (n : Nat) (v1 : Int32) (w : MS), lw1 (P_X12_train_217 G K_241) n v1 w = some y → EE G p l e ({ frames := 8, cells := 0, slots := 0, locals := 181 } : Room) s m args below meth c (some (.int y.1), mh h M y.2) 0 0 217 [(0, .ref M), (1, .int v1)] [] (mh h M w) 0 0 := by
  intro n
  induction n with
  | zero => intro v1 w hf; exact (no_e hf).elim
  | succ n ih_217 =>
    intro v1 w hf
    have hf : P_X12_train_217 G K_241 (lw1 (P_X12_train_217 G K_241) n) v1 w = some y := hf
    generalize lw1 (P_X12_train_217 G K_241) n = self_217 at hf ih_217
    unfold P_X12_train_217 at hf
    refine e_iload_n (pc := 217) C dX12_train_217 1 rfl rfl ?_
    refine e_bipush (v := (7 : Int32)) (pc := 218) C dX12_train_218 (by decide) ?_
    rcases it_e hf with ⟨c41, hf⟩ | ⟨c41, hf⟩
    · refine e_icmp_ge (pc := 220) (tgt := 241) C dX12_train_220 (by decide) (fun _ => ?_) (fun q => absurd c41 q)
      refine e_lv (lv2 := [(0, .ref M)]) [0] rfl ?_
      exact hK_241 w hf
    · refine e_icmp_ge (pc := 220) (tgt := 241) C dX12_train_220 (by decide) (fun q => absurd q c41) (fun _ => ?_)
      refine e_aload_n (pc := 223) C dX12_train_223 0 rfl rfl ?_
      refine q_getr (pc := 224) 2 hI C dX12_train_224 (by decide) g1403 rfl rfl ?_
      refine e_iload_n (pc := 227) C dX12_train_227 1 rfl rfl ?_
      refine e_aload_n (pc := 228) C dX12_train_228 0 rfl rfl ?_
      refine q_getr (pc := 229) 1 hI C dX12_train_229 (by decide) g1402 rfl rfl ?_
      refine e_iconst (v := (2 : Int32)) (pc := 232) C dX12_train_232 (by decide) ?_
      obtain ⟨q42, hf⟩ := ck_e hf
      refine q_iald (pc := 233) (k := 1) hI C dX12_train_233 rfl (ixn_e q42) ?_
      obtain ⟨q43, hf⟩ := ck_e hf
      refine q_iast (pc := 234) (k := 2) hI C dX12_train_234 rfl (ixn_e q43) ?_
      obtain ⟨w44, ew44, hf⟩ := nn_e hf
      refine q_hp ew44 ?_
      obtain ⟨x45, ex45, hf⟩ := nn_e hf
      refine e_iinc (pc := 235) (v := x45) (lv2 := [(1, .int x45), (0, .ref M)]) C hm dX12_train_235 1 rfl (by rw [ex45]; rfl) (by decide) rfl ?_
      refine e_goto (pc := 238) (tgt := 217) C dX12_train_238 (by decide) ?_
      refine e_lv (lv2 := [(0, .ref M), (1, .int x45)]) [1, 0] rfl ?_
      exact ih_217 x45 w44 hf
set_option maxHeartbeats 4000000 in
set_option maxRecDepth 100000 in
theorem ep_X12_train_243 {G : GG} {p : Program} {l : Launch} {e : Env} {s : State} {m : MethodId} {args : Array Value} {below : List Frame} {meth : Method} {c : Code} {y : Int32 × MS} {M : Nat} {h : AH} (hI : MI h M) (C : Cx G cX12_train RX12 p s m args meth c) (hm : c.maxLocals = 2) (hr : meth.sig.returnType = (some .int)) (hin : meth.name = yX12_train.name) {K_283 : MS → Option (Int32 × MS)} (hK_283 : ∀ (w : MS), K_283 w = some y → EE G p l e ({ frames := 8, cells := 0, slots := 0, locals := 181 } : Room) s m args below meth c (some (.int y.1), mh h M y.2) 0 0 283 [(0, .ref M)] [] (mh h M w) 0 0) :
    ∀ (n : Nat) (v1 : Int32) (w : MS), lw1 (P_X12_train_243 G K_283) n v1 w = some y → EE G p l e ({ frames := 8, cells := 0, slots := 0, locals := 181 } : Room) s m args below meth c (some (.int y.1), mh h M y.2) 0 0 243 [(0, .ref M), (1, .int v1)] [] (mh h M w) 0 0 := by
  intro n
  induction n with
  | zero => intro v1 w hf; exact (no_e hf).elim
  | succ n ih_243 =>
    intro v1 w hf
    have hf : P_X12_train_243 G K_283 (lw1 (P_X12_train_243 G K_283) n) v1 w = some y := hf
    generalize lw1 (P_X12_train_243 G K_283) n = self_243 at hf ih_243
    unfold P_X12_train_243 at hf
    refine e_iload_n (pc := 243) C dX12_train_243 1 rfl rfl ?_
    refine e_bipush (v := (8 : Int32)) (pc := 244) C dX12_train_244 (by decide) ?_
    rcases it_e hf with ⟨c46, hf⟩ | ⟨c46, hf⟩
    · refine e_icmp_ge (pc := 246) (tgt := 283) C dX12_train_246 (by decide) (fun _ => ?_) (fun q => absurd c46 q)
      refine e_lv (lv2 := [(0, .ref M)]) [0] rfl ?_
      exact hK_283 w hf
    · refine e_icmp_ge (pc := 246) (tgt := 283) C dX12_train_246 (by decide) (fun q => absurd q c46) (fun _ => ?_)
      refine e_aload_n (pc := 249) C dX12_train_249 0 rfl rfl ?_
      refine q_getr (pc := 250) 9 hI C dX12_train_250 (by decide) g1410 rfl rfl ?_
      refine e_iload_n (pc := 253) C dX12_train_253 1 rfl rfl ?_
      refine e_iconst (v := (-1 : Int32)) (pc := 254) C dX12_train_254 (by decide) ?_
      obtain ⟨q47, hf⟩ := ck_e hf
      refine q_iast (pc := 255) (k := 9) hI C dX12_train_255 rfl (ixn_e q47) ?_
      obtain ⟨w48, ew48, hf⟩ := nn_e hf
      refine q_hp ew48 ?_
      refine e_aload_n (pc := 256) C dX12_train_256 0 rfl rfl ?_
      refine q_getr (pc := 257) 10 hI C dX12_train_257 (by decide) g1411 rfl rfl ?_
      refine e_iload_n (pc := 260) C dX12_train_260 1 rfl rfl ?_
      refine e_iconst (v := (0 : Int32)) (pc := 261) C dX12_train_261 (by decide) ?_
      obtain ⟨q49, hf⟩ := ck_e hf
      refine q_iast (pc := 262) (k := 10) hI C dX12_train_262 rfl (ixn_e q49) ?_
      obtain ⟨w50, ew50, hf⟩ := nn_e hf
      refine q_hp ew50 ?_
      refine e_aload_n (pc := 263) C dX12_train_263 0 rfl rfl ?_
      refine q_getr (pc := 264) 11 hI C dX12_train_264 (by decide) g1412 rfl rfl ?_
      refine e_iload_n (pc := 267) C dX12_train_267 1 rfl rfl ?_
      refine e_iconst (v := (0 : Int32)) (pc := 268) C dX12_train_268 (by decide) ?_
      obtain ⟨q51, hf⟩ := ck_e hf
      refine q_iast (pc := 269) (k := 11) hI C dX12_train_269 rfl (ixn_e q51) ?_
      obtain ⟨w52, ew52, hf⟩ := nn_e hf
      refine q_hp ew52 ?_
      refine e_aload_n (pc := 270) C dX12_train_270 0 rfl rfl ?_
      refine q_getr (pc := 271) 12 hI C dX12_train_271 (by decide) g1413 rfl rfl ?_
      refine e_iload_n (pc := 274) C dX12_train_274 1 rfl rfl ?_
      refine e_iconst (v := (0 : Int32)) (pc := 275) C dX12_train_275 (by decide) ?_
      obtain ⟨q53, hf⟩ := ck_e hf
      refine q_iast (pc := 276) (k := 12) hI C dX12_train_276 rfl (ixn_e q53) ?_
      obtain ⟨w54, ew54, hf⟩ := nn_e hf
      refine q_hp ew54 ?_
      obtain ⟨x55, ex55, hf⟩ := nn_e hf
      refine e_iinc (pc := 277) (v := x55) (lv2 := [(1, .int x55), (0, .ref M)]) C hm dX12_train_277 1 rfl (by rw [ex55]; rfl) (by decide) rfl ?_
      refine e_goto (pc := 280) (tgt := 243) C dX12_train_280 (by decide) ?_
      refine e_lv (lv2 := [(0, .ref M), (1, .int x55)]) [1, 0] rfl ?_
      exact ih_243 x55 w54 hf
set_option maxHeartbeats 4000000 in
set_option maxRecDepth 100000 in
theorem pt_X12_train {G : GG} {l : Launch} {M : Nat} {h : AH} (hI : MI h M) {w : MS} {y : Int32 × MS} (hf : p_X12_train G w = some y) : Ct G l yX12_train cX12_train 2 (some .int) 8 181 0 0 [.ref M] (mh h M w) (some (.int y.1), mh h M y.2) := by
  refine ct_of (by decide) (Nat.le_of_ble_eq_true rfl) ?_
  intro p e s m args below meth c C hm hr hin
  have C : Cx G cX12_train RX12 p s m args meth c := C
  refine e_lv (lv2 := [(0, .ref M)]) [0] rfl ?_
  unfold p_X12_train at hf
  refine e_aload_n (pc := 0) C dX12_train_0 0 rfl rfl ?_
  obtain ⟨w1, y2, hf⟩ := ob_e hf
  refine e_callVv (pc := 1) (st := []) 12 C (pt_X12_readsAll hI y2) dX12_train_1 (by decide) hI.1 g1674 g1676 g56 g157 g1677 hd_X12_readsAll rfl ⟨Nat.le_of_ble_eq_true rfl, Nat.le_of_ble_eq_true rfl⟩ ⟨Nat.le_of_ble_eq_true rfl, Nat.le_of_ble_eq_true rfl⟩ rfl (Nat.le_of_ble_eq_true rfl) ?_
  refine e_aload_n (pc := 4) C dX12_train_4 0 rfl rfl ?_
  refine q_geti (pc := 5) 34 hI C dX12_train_5 (by decide) g1435 rfl ?_
  rcases it_e hf with ⟨c3, hf⟩ | ⟨c3, hf⟩
  · refine e_if_le (pc := 8) (tgt := 19) C dX12_train_8 (by decide) (fun _ => ?_) (fun q => absurd c3 q)
    refine e_iconst (v := (0 : Int32)) (pc := 19) C dX12_train_19 (by decide) ?_
    refine e_istore_n (pc := 20) (lv2 := [(1, .int (0 : Int32)), (0, .ref M)]) C hm dX12_train_20 rfl (by decide) rfl ?_
    refine e_lv (lv2 := [(0, .ref M), (1, .int (0 : Int32))]) [1, 0] rfl ?_
    refine ep_X12_train_21 hI C hm hr hin (fun h_55 hf => ?_) bN (0 : Int32) w1 hf
    refine e_aload_n (pc := 55) C dX12_train_55 0 rfl rfl ?_
    refine q_getr (pc := 56) 21 hI C dX12_train_56 (by decide) g1422 rfl rfl ?_
    refine e_aload_n (pc := 59) C dX12_train_59 0 rfl rfl ?_
    refine q_getr (pc := 60) 3 hI C dX12_train_60 (by decide) g1404 rfl rfl ?_
    obtain ⟨w10, y11, hf⟩ := ob_e hf
    refine e_callSv (pc := 63) (st := []) C (pt_X12_copies hI y11) dX12_train_63 g1756 g1757 g157 g1758 hd_X12_copies rfl ⟨Nat.le_of_ble_eq_true rfl, Nat.le_of_ble_eq_true rfl⟩ ⟨Nat.le_of_ble_eq_true rfl, Nat.le_of_ble_eq_true rfl⟩ rfl (Nat.le_of_ble_eq_true rfl) ?_
    refine e_aload_n (pc := 66) C dX12_train_66 0 rfl rfl ?_
    refine q_getr (pc := 67) 22 hI C dX12_train_67 (by decide) g1423 rfl rfl ?_
    refine e_aload_n (pc := 70) C dX12_train_70 0 rfl rfl ?_
    refine q_getr (pc := 71) 4 hI C dX12_train_71 (by decide) g1405 rfl rfl ?_
    obtain ⟨w12, y13, hf⟩ := ob_e hf
    refine e_callSv (pc := 74) (st := []) C (pt_X12_copies hI y13) dX12_train_74 g1756 g1757 g157 g1758 hd_X12_copies rfl ⟨Nat.le_of_ble_eq_true rfl, Nat.le_of_ble_eq_true rfl⟩ ⟨Nat.le_of_ble_eq_true rfl, Nat.le_of_ble_eq_true rfl⟩ rfl (Nat.le_of_ble_eq_true rfl) ?_
    refine e_aload_n (pc := 77) C dX12_train_77 0 rfl rfl ?_
    refine q_getr (pc := 78) 23 hI C dX12_train_78 (by decide) g1424 rfl rfl ?_
    refine e_aload_n (pc := 81) C dX12_train_81 0 rfl rfl ?_
    refine q_getr (pc := 82) 5 hI C dX12_train_82 (by decide) g1406 rfl rfl ?_
    obtain ⟨w14, y15, hf⟩ := ob_e hf
    refine e_callSv (pc := 85) (st := []) C (pt_X12_copies hI y15) dX12_train_85 g1756 g1757 g157 g1758 hd_X12_copies rfl ⟨Nat.le_of_ble_eq_true rfl, Nat.le_of_ble_eq_true rfl⟩ ⟨Nat.le_of_ble_eq_true rfl, Nat.le_of_ble_eq_true rfl⟩ rfl (Nat.le_of_ble_eq_true rfl) ?_
    refine e_aload_n (pc := 88) C dX12_train_88 0 rfl rfl ?_
    refine q_getr (pc := 89) 24 hI C dX12_train_89 (by decide) g1425 rfl rfl ?_
    refine e_aload_n (pc := 92) C dX12_train_92 0 rfl rfl ?_
    refine q_getr (pc := 93) 6 hI C dX12_train_93 (by decide) g1407 rfl rfl ?_
    obtain ⟨w16, y17, hf⟩ := ob_e hf
    refine e_callSv (pc := 96) (st := []) C (pt_X12_copies hI y17) dX12_train_96 g1756 g1757 g157 g1758 hd_X12_copies rfl ⟨Nat.le_of_ble_eq_true rfl, Nat.le_of_ble_eq_true rfl⟩ ⟨Nat.le_of_ble_eq_true rfl, Nat.le_of_ble_eq_true rfl⟩ rfl (Nat.le_of_ble_eq_true rfl) ?_
    refine e_aload_n (pc := 99) C dX12_train_99 0 rfl rfl ?_
    refine q_getr (pc := 100) 25 hI C dX12_train_100 (by decide) g1426 rfl rfl ?_
    refine e_aload_n (pc := 103) C dX12_train_103 0 rfl rfl ?_
    refine q_getr (pc := 104) 7 hI C dX12_train_104 (by decide) g1408 rfl rfl ?_
    obtain ⟨w18, y19, hf⟩ := ob_e hf
    refine e_callSv (pc := 107) (st := []) C (pt_X12_copies hI y19) dX12_train_107 g1756 g1757 g157 g1758 hd_X12_copies rfl ⟨Nat.le_of_ble_eq_true rfl, Nat.le_of_ble_eq_true rfl⟩ ⟨Nat.le_of_ble_eq_true rfl, Nat.le_of_ble_eq_true rfl⟩ rfl (Nat.le_of_ble_eq_true rfl) ?_
    refine e_aload_n (pc := 110) C dX12_train_110 0 rfl rfl ?_
    refine q_getr (pc := 111) 26 hI C dX12_train_111 (by decide) g1427 rfl rfl ?_
    refine e_aload_n (pc := 114) C dX12_train_114 0 rfl rfl ?_
    refine q_getr (pc := 115) 8 hI C dX12_train_115 (by decide) g1409 rfl rfl ?_
    obtain ⟨w20, y21, hf⟩ := ob_e hf
    refine e_callSv (pc := 118) (st := []) C (pt_X12_copies hI y21) dX12_train_118 g1756 g1757 g157 g1758 hd_X12_copies rfl ⟨Nat.le_of_ble_eq_true rfl, Nat.le_of_ble_eq_true rfl⟩ ⟨Nat.le_of_ble_eq_true rfl, Nat.le_of_ble_eq_true rfl⟩ rfl (Nat.le_of_ble_eq_true rfl) ?_
    refine e_aload_n (pc := 121) C dX12_train_121 0 rfl rfl ?_
    refine q_getr (pc := 122) 27 hI C dX12_train_122 (by decide) g1428 rfl rfl ?_
    refine e_aload_n (pc := 125) C dX12_train_125 0 rfl rfl ?_
    refine q_getr (pc := 126) 13 hI C dX12_train_126 (by decide) g1414 rfl rfl ?_
    obtain ⟨w22, y23, hf⟩ := ob_e hf
    refine e_callSv (pc := 129) (st := []) C (pt_X12_copies hI y23) dX12_train_129 g1756 g1757 g157 g1758 hd_X12_copies rfl ⟨Nat.le_of_ble_eq_true rfl, Nat.le_of_ble_eq_true rfl⟩ ⟨Nat.le_of_ble_eq_true rfl, Nat.le_of_ble_eq_true rfl⟩ rfl (Nat.le_of_ble_eq_true rfl) ?_
    refine e_aload_n (pc := 132) C dX12_train_132 0 rfl rfl ?_
    refine q_getr (pc := 133) 28 hI C dX12_train_133 (by decide) g1429 rfl rfl ?_
    refine e_aload_n (pc := 136) C dX12_train_136 0 rfl rfl ?_
    refine q_getr (pc := 137) 14 hI C dX12_train_137 (by decide) g1415 rfl rfl ?_
    obtain ⟨w24, y25, hf⟩ := ob_e hf
    refine e_callSv (pc := 140) (st := []) C (pt_X12_copies hI y25) dX12_train_140 g1756 g1757 g157 g1758 hd_X12_copies rfl ⟨Nat.le_of_ble_eq_true rfl, Nat.le_of_ble_eq_true rfl⟩ ⟨Nat.le_of_ble_eq_true rfl, Nat.le_of_ble_eq_true rfl⟩ rfl (Nat.le_of_ble_eq_true rfl) ?_
    refine e_aload_n (pc := 143) C dX12_train_143 0 rfl rfl ?_
    refine q_getr (pc := 144) 29 hI C dX12_train_144 (by decide) g1430 rfl rfl ?_
    refine e_aload_n (pc := 147) C dX12_train_147 0 rfl rfl ?_
    refine q_getr (pc := 148) 15 hI C dX12_train_148 (by decide) g1416 rfl rfl ?_
    obtain ⟨w26, y27, hf⟩ := ob_e hf
    refine e_callSv (pc := 151) (st := []) C (pt_X12_copies hI y27) dX12_train_151 g1756 g1757 g157 g1758 hd_X12_copies rfl ⟨Nat.le_of_ble_eq_true rfl, Nat.le_of_ble_eq_true rfl⟩ ⟨Nat.le_of_ble_eq_true rfl, Nat.le_of_ble_eq_true rfl⟩ rfl (Nat.le_of_ble_eq_true rfl) ?_
    refine e_aload_n (pc := 154) C dX12_train_154 0 rfl rfl ?_
    refine q_getr (pc := 155) 30 hI C dX12_train_155 (by decide) g1431 rfl rfl ?_
    refine e_aload_n (pc := 158) C dX12_train_158 0 rfl rfl ?_
    refine q_getr (pc := 159) 16 hI C dX12_train_159 (by decide) g1417 rfl rfl ?_
    obtain ⟨w28, y29, hf⟩ := ob_e hf
    refine e_callSv (pc := 162) (st := []) C (pt_X12_copies hI y29) dX12_train_162 g1756 g1757 g157 g1758 hd_X12_copies rfl ⟨Nat.le_of_ble_eq_true rfl, Nat.le_of_ble_eq_true rfl⟩ ⟨Nat.le_of_ble_eq_true rfl, Nat.le_of_ble_eq_true rfl⟩ rfl (Nat.le_of_ble_eq_true rfl) ?_
    refine e_aload_n (pc := 165) C dX12_train_165 0 rfl rfl ?_
    refine q_getr (pc := 166) 31 hI C dX12_train_166 (by decide) g1432 rfl rfl ?_
    refine e_aload_n (pc := 169) C dX12_train_169 0 rfl rfl ?_
    refine q_getr (pc := 170) 17 hI C dX12_train_170 (by decide) g1418 rfl rfl ?_
    obtain ⟨w30, y31, hf⟩ := ob_e hf
    refine e_callSv (pc := 173) (st := []) C (pt_X12_copies hI y31) dX12_train_173 g1756 g1757 g157 g1758 hd_X12_copies rfl ⟨Nat.le_of_ble_eq_true rfl, Nat.le_of_ble_eq_true rfl⟩ ⟨Nat.le_of_ble_eq_true rfl, Nat.le_of_ble_eq_true rfl⟩ rfl (Nat.le_of_ble_eq_true rfl) ?_
    refine e_aload_n (pc := 176) C dX12_train_176 0 rfl rfl ?_
    refine q_getr (pc := 177) 1 hI C dX12_train_177 (by decide) g1402 rfl rfl ?_
    refine e_bipush (v := (11 : Int32)) (pc := 180) C dX12_train_180 (by decide) ?_
    refine e_aload_n (pc := 182) C dX12_train_182 0 rfl rfl ?_
    refine q_getr (pc := 183) 1 hI C dX12_train_183 (by decide) g1402 rfl rfl ?_
    refine e_iconst (v := (1 : Int32)) (pc := 186) C dX12_train_186 (by decide) ?_
    obtain ⟨q32, hf⟩ := ck_e hf
    refine q_iald (pc := 187) (k := 1) hI C dX12_train_187 rfl (ixn_e q32) ?_
    obtain ⟨q33, hf⟩ := ck_e hf
    refine q_iast (pc := 188) (k := 1) hI C dX12_train_188 rfl (ixn_e q33) ?_
    obtain ⟨w34, ew34, hf⟩ := nn_e hf
    refine q_hp ew34 ?_
    refine e_aload_n (pc := 189) C dX12_train_189 0 rfl rfl ?_
    refine q_getr (pc := 190) 1 hI C dX12_train_190 (by decide) g1402 rfl rfl ?_
    refine e_bipush (v := (12 : Int32)) (pc := 193) C dX12_train_193 (by decide) ?_
    refine e_aload_n (pc := 195) C dX12_train_195 0 rfl rfl ?_
    refine q_getr (pc := 196) 1 hI C dX12_train_196 (by decide) g1402 rfl rfl ?_
    refine e_iconst (v := (2 : Int32)) (pc := 199) C dX12_train_199 (by decide) ?_
    obtain ⟨q35, hf⟩ := ck_e hf
    refine q_iald (pc := 200) (k := 1) hI C dX12_train_200 rfl (ixn_e q35) ?_
    obtain ⟨q36, hf⟩ := ck_e hf
    refine q_iast (pc := 201) (k := 1) hI C dX12_train_201 rfl (ixn_e q36) ?_
    obtain ⟨w37, ew37, hf⟩ := nn_e hf
    refine q_hp ew37 ?_
    refine e_aload_n (pc := 202) C dX12_train_202 0 rfl rfl ?_
    refine q_getr (pc := 203) 1 hI C dX12_train_203 (by decide) g1402 rfl rfl ?_
    refine e_bipush (v := (13 : Int32)) (pc := 206) C dX12_train_206 (by decide) ?_
    refine e_aload_n (pc := 208) C dX12_train_208 0 rfl rfl ?_
    refine q_getr (pc := 209) 1 hI C dX12_train_209 (by decide) g1402 rfl rfl ?_
    refine e_iconst (v := (4 : Int32)) (pc := 212) C dX12_train_212 (by decide) ?_
    obtain ⟨q38, hf⟩ := ck_e hf
    refine q_iald (pc := 213) (k := 1) hI C dX12_train_213 rfl (ixn_e q38) ?_
    obtain ⟨q39, hf⟩ := ck_e hf
    refine q_iast (pc := 214) (k := 1) hI C dX12_train_214 rfl (ixn_e q39) ?_
    obtain ⟨w40, ew40, hf⟩ := nn_e hf
    refine q_hp ew40 ?_
    refine e_iconst (v := (0 : Int32)) (pc := 215) C dX12_train_215 (by decide) ?_
    refine e_istore_n (pc := 216) (lv2 := [(1, .int (0 : Int32)), (0, .ref M)]) C hm dX12_train_216 rfl (by decide) rfl ?_
    refine e_lv (lv2 := [(0, .ref M), (1, .int (0 : Int32))]) [1, 0] rfl ?_
    refine ep_X12_train_217 hI C hm hr hin (fun h_241 hf => ?_) bN (0 : Int32) w40 hf
    refine e_iconst (v := (0 : Int32)) (pc := 241) C dX12_train_241 (by decide) ?_
    refine e_istore_n (pc := 242) (lv2 := [(1, .int (0 : Int32)), (0, .ref M)]) C hm dX12_train_242 rfl (by decide) rfl ?_
    refine e_lv (lv2 := [(0, .ref M), (1, .int (0 : Int32))]) [1, 0] rfl ?_
    refine ep_X12_train_243 hI C hm hr hin (fun h_283 hf => ?_) bN (0 : Int32) h_241 hf
    refine e_aload_n (pc := 283) C dX12_train_283 0 rfl rfl ?_
    obtain ⟨w56, y57, hf⟩ := ob_e hf
    refine e_callVv (pc := 284) (st := []) 12 C (pt_X12_getIn hI y57) dX12_train_284 (by decide) hI.1 g1759 g1761 g72 g157 g1762 hd_X12_getIn rfl ⟨Nat.le_of_ble_eq_true rfl, Nat.le_of_ble_eq_true rfl⟩ ⟨Nat.le_of_ble_eq_true rfl, Nat.le_of_ble_eq_true rfl⟩ rfl (Nat.le_of_ble_eq_true rfl) ?_
    refine e_aload_n (pc := 287) C dX12_train_287 0 rfl rfl ?_
    refine e_iconst (v := (0 : Int32)) (pc := 288) C dX12_train_288 (by decide) ?_
    refine q_puti (pc := 289) 55 hI C dX12_train_289 (by decide) g1456 rfl rfl rfl rfl ?_
    obtain ⟨w58, ew58, hf⟩ := nn_e hf
    refine q_hp ew58 ?_
    refine e_aload_n (pc := 292) C dX12_train_292 0 rfl rfl ?_
    refine q_getr (pc := 293) 1 hI C dX12_train_293 (by decide) g1402 rfl rfl ?_
    refine e_bipush (v := (6 : Int32)) (pc := 296) C dX12_train_296 (by decide) ?_
    obtain ⟨q59, hf⟩ := ck_e hf
    refine q_iald (pc := 298) (k := 1) hI C dX12_train_298 rfl (ixn_e q59) ?_
    obtain rfl := so_e hf
    exact e_iret (pc := 299) C hr dX12_train_299 (Nat.le_of_ble_eq_true rfl) (Nat.le_of_ble_eq_true rfl)
  · refine e_if_le (pc := 8) (tgt := 19) C dX12_train_8 (by decide) (fun q => absurd q c3) (fun _ => ?_)
    refine e_bipush (v := (-2 : Int32)) (pc := 11) C dX12_train_11 (by decide) ?_
    refine e_aload_n (pc := 13) C dX12_train_13 0 rfl rfl ?_
    refine q_geti (pc := 14) 34 hI C dX12_train_14 (by decide) g1435 rfl ?_
    refine e_isub (pc := 17) C dX12_train_17 ?_
    obtain rfl := so_e hf
    exact e_iret (pc := 18) C hr dX12_train_18 (Nat.le_of_ble_eq_true rfl) (Nat.le_of_ble_eq_true rfl)
theorem dX12_ruleClause_0 : decode cX12_ruleClause 0 = .ok (.aload_n 0, 1) := by decide +kernel
theorem dX12_ruleClause_1 : decode cX12_ruleClause 1 = .ok (.invokevirtual 266, 3) := by decide +kernel
theorem dX12_ruleClause_4 : decode cX12_ruleClause 4 = .ok (.aload_n 0, 1) := by decide +kernel
theorem dX12_ruleClause_5 : decode cX12_ruleClause 5 = .ok (.getfield 246, 3) := by decide +kernel
theorem dX12_ruleClause_8 : decode cX12_ruleClause 8 = .ok (.istore_n 2, 1) := by decide +kernel
theorem dX12_ruleClause_9 : decode cX12_ruleClause 9 = .ok (.aload_n 0, 1) := by decide +kernel
theorem dX12_ruleClause_10 : decode cX12_ruleClause 10 = .ok (.ldc_w 396, 3) := by decide +kernel
theorem dX12_ruleClause_13 : decode cX12_ruleClause 13 = .ok (.invokevirtual 269, 3) := by decide +kernel
theorem dX12_ruleClause_16 : decode cX12_ruleClause 16 = .ok (.ifCond .ne 10, 3) := by decide +kernel
theorem dX12_ruleClause_19 : decode cX12_ruleClause 19 = .ok (.aload_n 0, 1) := by decide +kernel
theorem dX12_ruleClause_20 : decode cX12_ruleClause 20 = .ok (.iconst 0, 1) := by decide +kernel
theorem dX12_ruleClause_21 : decode cX12_ruleClause 21 = .ok (.iload_n 2, 1) := by decide +kernel
theorem dX12_ruleClause_22 : decode cX12_ruleClause 22 = .ok (.invokevirtual 282, 3) := by decide +kernel
theorem dX12_ruleClause_25 : decode cX12_ruleClause 25 = .ok (.return_, 1) := by decide +kernel
theorem dX12_ruleClause_26 : decode cX12_ruleClause 26 = .ok (.iload_n 1, 1) := by decide +kernel
theorem dX12_ruleClause_27 : decode cX12_ruleClause 27 = .ok (.bipush 12, 2) := by decide +kernel
theorem dX12_ruleClause_29 : decode cX12_ruleClause 29 = .ok (.if_icmp .ne 10, 3) := by decide +kernel
theorem dX12_ruleClause_32 : decode cX12_ruleClause 32 = .ok (.aload_n 0, 1) := by decide +kernel
theorem dX12_ruleClause_33 : decode cX12_ruleClause 33 = .ok (.iconst 4, 1) := by decide +kernel
theorem dX12_ruleClause_34 : decode cX12_ruleClause 34 = .ok (.iload_n 2, 1) := by decide +kernel
theorem dX12_ruleClause_35 : decode cX12_ruleClause 35 = .ok (.invokevirtual 282, 3) := by decide +kernel
theorem dX12_ruleClause_38 : decode cX12_ruleClause 38 = .ok (.return_, 1) := by decide +kernel
theorem dX12_ruleClause_39 : decode cX12_ruleClause 39 = .ok (.aload_n 0, 1) := by decide +kernel
theorem dX12_ruleClause_40 : decode cX12_ruleClause 40 = .ok (.dup, 1) := by decide +kernel
theorem dX12_ruleClause_41 : decode cX12_ruleClause 41 = .ok (.getfield 246, 3) := by decide +kernel
theorem dX12_ruleClause_44 : decode cX12_ruleClause 44 = .ok (.iconst 4, 1) := by decide +kernel
theorem dX12_ruleClause_45 : decode cX12_ruleClause 45 = .ok (.iadd, 1) := by decide +kernel
theorem dX12_ruleClause_46 : decode cX12_ruleClause 46 = .ok (.putfield 246, 3) := by decide +kernel
theorem dX12_ruleClause_49 : decode cX12_ruleClause 49 = .ok (.bipush 12, 2) := by decide +kernel
theorem dX12_ruleClause_51 : decode cX12_ruleClause 51 = .ok (.aload_n 0, 1) := by decide +kernel
theorem dX12_ruleClause_52 : decode cX12_ruleClause 52 = .ok (.getfield 273, 3) := by decide +kernel
theorem dX12_ruleClause_55 : decode cX12_ruleClause 55 = .ok (.imul, 1) := by decide +kernel
theorem dX12_ruleClause_56 : decode cX12_ruleClause 56 = .ok (.iload_n 1, 1) := by decide +kernel
theorem dX12_ruleClause_57 : decode cX12_ruleClause 57 = .ok (.iadd, 1) := by decide +kernel
theorem dX12_ruleClause_58 : decode cX12_ruleClause 58 = .ok (.istore_n 3, 1) := by decide +kernel
theorem dX12_ruleClause_59 : decode cX12_ruleClause 59 = .ok (.aload_n 0, 1) := by decide +kernel
theorem dX12_ruleClause_60 : decode cX12_ruleClause 60 = .ok (.getfield 120, 3) := by decide +kernel
theorem dX12_ruleClause_63 : decode cX12_ruleClause 63 = .ok (.iload_n 3, 1) := by decide +kernel
theorem dX12_ruleClause_64 : decode cX12_ruleClause 64 = .ok (.aload_n 0, 1) := by decide +kernel
theorem dX12_ruleClause_65 : decode cX12_ruleClause 65 = .ok (.getfield 276, 3) := by decide +kernel
theorem dX12_ruleClause_68 : decode cX12_ruleClause 68 = .ok (.iastore, 1) := by decide +kernel
theorem dX12_ruleClause_69 : decode cX12_ruleClause 69 = .ok (.aload_n 0, 1) := by decide +kernel
theorem dX12_ruleClause_70 : decode cX12_ruleClause 70 = .ok (.invokevirtual 311, 3) := by decide +kernel
theorem dX12_ruleClause_73 : decode cX12_ruleClause 73 = .ok (.aload_n 0, 1) := by decide +kernel
theorem dX12_ruleClause_74 : decode cX12_ruleClause 74 = .ok (.getfield 123, 3) := by decide +kernel
theorem dX12_ruleClause_77 : decode cX12_ruleClause 77 = .ok (.iload_n 3, 1) := by decide +kernel
theorem dX12_ruleClause_78 : decode cX12_ruleClause 78 = .ok (.aload_n 0, 1) := by decide +kernel
theorem dX12_ruleClause_79 : decode cX12_ruleClause 79 = .ok (.getfield 276, 3) := by decide +kernel
theorem dX12_ruleClause_82 : decode cX12_ruleClause 82 = .ok (.iastore, 1) := by decide +kernel
theorem dX12_ruleClause_83 : decode cX12_ruleClause 83 = .ok (.aload_n 0, 1) := by decide +kernel
theorem dX12_ruleClause_84 : decode cX12_ruleClause 84 = .ok (.getfield 243, 3) := by decide +kernel
theorem dX12_ruleClause_87 : decode cX12_ruleClause 87 = .ok (.ifCond .ne 17, 3) := by decide +kernel
theorem dX12_ruleClause_90 : decode cX12_ruleClause 90 = .ok (.aload_n 0, 1) := by decide +kernel
theorem dX12_ruleClause_91 : decode cX12_ruleClause 91 = .ok (.ldc_w 398, 3) := by decide +kernel
theorem dX12_ruleClause_94 : decode cX12_ruleClause 94 = .ok (.invokevirtual 400, 3) := by decide +kernel
theorem dX12_ruleClause_97 : decode cX12_ruleClause 97 = .ok (.ifCond .eq 7, 3) := by decide +kernel
theorem dX12_ruleClause_100 : decode cX12_ruleClause 100 = .ok (.aload_n 0, 1) := by decide +kernel
theorem dX12_ruleClause_101 : decode cX12_ruleClause 101 = .ok (.invokevirtual 403, 3) := by decide +kernel
theorem dX12_ruleClause_104 : decode cX12_ruleClause 104 = .ok (.aload_n 0, 1) := by decide +kernel
theorem dX12_ruleClause_105 : decode cX12_ruleClause 105 = .ok (.getfield 126, 3) := by decide +kernel
theorem dX12_ruleClause_108 : decode cX12_ruleClause 108 = .ok (.iload_n 3, 1) := by decide +kernel
theorem dX12_ruleClause_109 : decode cX12_ruleClause 109 = .ok (.aload_n 0, 1) := by decide +kernel
theorem dX12_ruleClause_110 : decode cX12_ruleClause 110 = .ok (.getfield 276, 3) := by decide +kernel
theorem dX12_ruleClause_113 : decode cX12_ruleClause 113 = .ok (.iastore, 1) := by decide +kernel
theorem dX12_ruleClause_114 : decode cX12_ruleClause 114 = .ok (.return_, 1) := by decide +kernel
def p_X12_ruleClause (G : GG) (v1 : Int32) (w : MS) : Option (MS) :=
ob (p_X12_blanks G w) fun w1 =>
nn (w1.1 0 33) fun x3 =>
cw (p_X12_stood G ((G.2.2.2.1 9)) w1) fun r6 w4 =>
if r6 = 0 then (ob (p_X12_fails G (0 : Int32) x3 w4) fun w8 =>
some w8) else
if v1 = (12 : Int32) then (ob (p_X12_fails G (4 : Int32) x3 w4) fun w11 =>
some w11) else
nn (w_si w4 0 33 ((w4.1 0 33) + (4 : Int32))) fun w13 =>
nn (((12 : Int32) * (w13.1 0 35)) + v1) fun x14 =>
ck (ixn 72 x14 = true) <|
nn (w_si w13 46 x14.toNatClampNeg (w13.1 0 37)) fun w16 =>
ob (p_X12_sum G w16) fun w17 =>
ck (ixn 72 x14 = true) <|
nn (w_si w17 47 x14.toNatClampNeg (w17.1 0 37)) fun w20 =>
nn (fun (h_104 : MS) => (ck (ixn 72 x14 = true) <|
nn (w_si h_104 48 x14.toNatClampNeg (h_104.1 0 37)) fun w22 =>
some w22)) fun j_104 =>
if (w20.1 0 34) = 0 then (cw (p_X12_takes G ((G.2.2.2.1 21)) w20) fun r26 w24 =>
if r26 = 0 then (j_104 w24) else
ob (p_X12_test G w24) fun w28 =>
j_104 w28) else
j_104 w20
set_option maxHeartbeats 4000000 in
set_option maxRecDepth 100000 in
theorem pt_X12_ruleClause {G : GG} {l : Launch} {M : Nat} {h : AH} (hI : MI h M) {v1 : Int32} {w : MS} {y : MS} (hf : p_X12_ruleClause G v1 w = some y) : Ct G l yX12_ruleClause cX12_ruleClause 4 none 11 239 0 0 [.ref M, .int v1] (mh h M w) (none, mh h M y) := by
  refine ct_of (by decide) (Nat.le_of_ble_eq_true rfl) ?_
  intro p e s m args below meth c C hm hr hin
  have C : Cx G cX12_ruleClause RX12 p s m args meth c := C
  refine e_lv (lv2 := [(0, .ref M), (1, .int v1)]) [0, 1] rfl ?_
  unfold p_X12_ruleClause at hf
  refine e_aload_n (pc := 0) C dX12_ruleClause_0 0 rfl rfl ?_
  obtain ⟨w1, y2, hf⟩ := ob_e hf
  refine e_callVv (pc := 1) (st := []) 12 C (pt_X12_blanks hI y2) dX12_ruleClause_1 (by decide) hI.1 g1686 g1688 g59 g157 g1689 hd_X12_blanks rfl ⟨Nat.le_of_ble_eq_true rfl, Nat.le_of_ble_eq_true rfl⟩ ⟨Nat.le_of_ble_eq_true rfl, Nat.le_of_ble_eq_true rfl⟩ rfl (Nat.le_of_ble_eq_true rfl) ?_
  refine e_aload_n (pc := 4) C dX12_ruleClause_4 0 rfl rfl ?_
  refine q_geti (pc := 5) 33 hI C dX12_ruleClause_5 (by decide) g1434 rfl ?_
  obtain ⟨x3, ex3, hf⟩ := nn_e hf
  refine e_topi ex3 ?_
  refine e_istore_n (pc := 8) (lv2 := [(2, .int x3), (0, .ref M), (1, .int v1)]) C hm dX12_ruleClause_8 rfl (by decide) rfl ?_
  refine e_aload_n (pc := 9) C dX12_ruleClause_9 1 rfl rfl ?_
  refine e_ldcSw (pc := 10) C dX12_ruleClause_10 9 rfl ?_
  obtain ⟨r6, w4, y5, hf⟩ := cw_e hf
  refine e_callVi (pc := 13) (st := []) 12 C (pt_X12_stood hI y5) dX12_ruleClause_13 (by decide) hI.1 g1704 g1706 g61 g157 g1707 hd_X12_stood rfl ⟨Nat.le_of_ble_eq_true rfl, Nat.le_of_ble_eq_true rfl⟩ ⟨Nat.le_of_ble_eq_true rfl, Nat.le_of_ble_eq_true rfl⟩ rfl (Nat.le_of_ble_eq_true rfl) ?_
  rcases it_e hf with ⟨c7, hf⟩ | ⟨c7, hf⟩
  · refine e_if_ne (pc := 16) (tgt := 26) C dX12_ruleClause_16 (by decide) (fun q => absurd c7 q) (fun _ => ?_)
    refine e_aload_n (pc := 19) C dX12_ruleClause_19 1 rfl rfl ?_
    refine e_iconst (v := (0 : Int32)) (pc := 20) C dX12_ruleClause_20 (by decide) ?_
    refine e_iload_n (pc := 21) C dX12_ruleClause_21 0 rfl rfl ?_
    obtain ⟨w8, y9, hf⟩ := ob_e hf
    refine e_callVv (pc := 22) (st := []) 12 C (pt_X12_fails hI y9) dX12_ruleClause_22 (by decide) hI.1 g1710 g1712 g62 g157 g1713 hd_X12_fails rfl ⟨Nat.le_of_ble_eq_true rfl, Nat.le_of_ble_eq_true rfl⟩ ⟨Nat.le_of_ble_eq_true rfl, Nat.le_of_ble_eq_true rfl⟩ rfl (Nat.le_of_ble_eq_true rfl) ?_
    obtain rfl := so_e hf
    exact e_vret (pc := 25) C hr dX12_ruleClause_25 (Nat.le_of_ble_eq_true rfl) (Nat.le_of_ble_eq_true rfl)
  · refine e_if_ne (pc := 16) (tgt := 26) C dX12_ruleClause_16 (by decide) (fun _ => ?_) (fun q => absurd q c7)
    refine e_iload_n (pc := 26) C dX12_ruleClause_26 2 rfl rfl ?_
    refine e_bipush (v := (12 : Int32)) (pc := 27) C dX12_ruleClause_27 (by decide) ?_
    rcases it_e hf with ⟨c10, hf⟩ | ⟨c10, hf⟩
    · refine e_icmp_ne (pc := 29) (tgt := 39) C dX12_ruleClause_29 (by decide) (fun q => absurd c10 q) (fun _ => ?_)
      refine e_aload_n (pc := 32) C dX12_ruleClause_32 1 rfl rfl ?_
      refine e_iconst (v := (4 : Int32)) (pc := 33) C dX12_ruleClause_33 (by decide) ?_
      refine e_iload_n (pc := 34) C dX12_ruleClause_34 0 rfl rfl ?_
      obtain ⟨w11, y12, hf⟩ := ob_e hf
      refine e_callVv (pc := 35) (st := []) 12 C (pt_X12_fails hI y12) dX12_ruleClause_35 (by decide) hI.1 g1710 g1712 g62 g157 g1713 hd_X12_fails rfl ⟨Nat.le_of_ble_eq_true rfl, Nat.le_of_ble_eq_true rfl⟩ ⟨Nat.le_of_ble_eq_true rfl, Nat.le_of_ble_eq_true rfl⟩ rfl (Nat.le_of_ble_eq_true rfl) ?_
      obtain rfl := so_e hf
      exact e_vret (pc := 38) C hr dX12_ruleClause_38 (Nat.le_of_ble_eq_true rfl) (Nat.le_of_ble_eq_true rfl)
    · refine e_icmp_ne (pc := 29) (tgt := 39) C dX12_ruleClause_29 (by decide) (fun _ => ?_) (fun q => absurd q c10)
      refine e_aload_n (pc := 39) C dX12_ruleClause_39 1 rfl rfl ?_
      refine e_dup (pc := 40) C dX12_ruleClause_40 rfl ?_
      refine q_geti (pc := 41) 33 hI C dX12_ruleClause_41 (by decide) g1434 rfl ?_
      refine e_iconst (v := (4 : Int32)) (pc := 44) C dX12_ruleClause_44 (by decide) ?_
      refine e_iadd (pc := 45) C dX12_ruleClause_45 ?_
      refine q_puti (pc := 46) 33 hI C dX12_ruleClause_46 (by decide) g1434 rfl rfl rfl rfl ?_
      obtain ⟨w13, ew13, hf⟩ := nn_e hf
      refine q_hp ew13 ?_
      refine e_bipush (v := (12 : Int32)) (pc := 49) C dX12_ruleClause_49 (by decide) ?_
      refine e_aload_n (pc := 51) C dX12_ruleClause_51 1 rfl rfl ?_
      refine q_geti (pc := 52) 35 hI C dX12_ruleClause_52 (by decide) g1436 rfl ?_
      refine e_imul (pc := 55) C dX12_ruleClause_55 ?_
      refine e_iload_n (pc := 56) C dX12_ruleClause_56 2 rfl rfl ?_
      refine e_iadd (pc := 57) C dX12_ruleClause_57 ?_
      obtain ⟨x14, ex14, hf⟩ := nn_e hf
      refine e_topi ex14 ?_
      refine e_istore_n (pc := 58) (lv2 := [(3, .int x14), (2, .int x3), (0, .ref M), (1, .int v1)]) C hm dX12_ruleClause_58 rfl (by decide) rfl ?_
      refine e_aload_n (pc := 59) C dX12_ruleClause_59 2 rfl rfl ?_
      refine q_getr (pc := 60) 46 hI C dX12_ruleClause_60 (by decide) g1447 rfl rfl ?_
      refine e_iload_n (pc := 63) C dX12_ruleClause_63 0 rfl rfl ?_
      refine e_aload_n (pc := 64) C dX12_ruleClause_64 2 rfl rfl ?_
      refine q_geti (pc := 65) 37 hI C dX12_ruleClause_65 (by decide) g1438 rfl ?_
      obtain ⟨q15, hf⟩ := ck_e hf
      refine q_iast (pc := 68) (k := 46) hI C dX12_ruleClause_68 rfl (ixn_e q15) ?_
      obtain ⟨w16, ew16, hf⟩ := nn_e hf
      refine q_hp ew16 ?_
      refine e_aload_n (pc := 69) C dX12_ruleClause_69 2 rfl rfl ?_
      obtain ⟨w17, y18, hf⟩ := ob_e hf
      refine e_callVv (pc := 70) (st := []) 12 C (pt_X12_sum hI y18) dX12_ruleClause_70 (by decide) hI.1 g1791 g1793 g78 g157 g1794 hd_X12_sum rfl ⟨Nat.le_of_ble_eq_true rfl, Nat.le_of_ble_eq_true rfl⟩ ⟨Nat.le_of_ble_eq_true rfl, Nat.le_of_ble_eq_true rfl⟩ rfl (Nat.le_of_ble_eq_true rfl) ?_
      refine e_aload_n (pc := 73) C dX12_ruleClause_73 2 rfl rfl ?_
      refine q_getr (pc := 74) 47 hI C dX12_ruleClause_74 (by decide) g1448 rfl rfl ?_
      refine e_iload_n (pc := 77) C dX12_ruleClause_77 0 rfl rfl ?_
      refine e_aload_n (pc := 78) C dX12_ruleClause_78 2 rfl rfl ?_
      refine q_geti (pc := 79) 37 hI C dX12_ruleClause_79 (by decide) g1438 rfl ?_
      obtain ⟨q19, hf⟩ := ck_e hf
      refine q_iast (pc := 82) (k := 47) hI C dX12_ruleClause_82 rfl (ixn_e q19) ?_
      obtain ⟨w20, ew20, hf⟩ := nn_e hf
      refine q_hp ew20 ?_
      refine e_aload_n (pc := 83) C dX12_ruleClause_83 2 rfl rfl ?_
      refine q_geti (pc := 84) 34 hI C dX12_ruleClause_84 (by decide) g1435 rfl ?_
      obtain ⟨j_104, ej_104, hf⟩ := nn_e hf
      have W_104 : ∀ (h_104 : MS), j_104 h_104 = some y → EE G p l e ({ frames := 11, cells := 0, slots := 0, locals := 239 } : Room) s m args below meth c (none, mh h M y) 0 0 104 [(0, .ref M), (3, .int x14)] [] (mh h M h_104) 0 0 := by
        intro h_104 hf
        rw [ej_104] at hf
        refine e_aload_n (pc := 104) C dX12_ruleClause_104 0 rfl rfl ?_
        refine q_getr (pc := 105) 48 hI C dX12_ruleClause_105 (by decide) g1449 rfl rfl ?_
        refine e_iload_n (pc := 108) C dX12_ruleClause_108 1 rfl rfl ?_
        refine e_aload_n (pc := 109) C dX12_ruleClause_109 0 rfl rfl ?_
        refine q_geti (pc := 110) 37 hI C dX12_ruleClause_110 (by decide) g1438 rfl ?_
        obtain ⟨q21, hf⟩ := ck_e hf
        refine q_iast (pc := 113) (k := 48) hI C dX12_ruleClause_113 rfl (ixn_e q21) ?_
        obtain ⟨w22, ew22, hf⟩ := nn_e hf
        refine q_hp ew22 ?_
        obtain rfl := so_e hf
        exact e_vret (pc := 114) C hr dX12_ruleClause_114 (Nat.le_of_ble_eq_true rfl) (Nat.le_of_ble_eq_true rfl)
      rcases it_e hf with ⟨c23, hf⟩ | ⟨c23, hf⟩
      · refine e_if_ne (pc := 87) (tgt := 104) C dX12_ruleClause_87 (by decide) (fun q => absurd c23 q) (fun _ => ?_)
        refine e_aload_n (pc := 90) C dX12_ruleClause_90 2 rfl rfl ?_
        refine e_ldcSw (pc := 91) C dX12_ruleClause_91 21 rfl ?_
        obtain ⟨r26, w24, y25, hf⟩ := cw_e hf
        refine e_callVi (pc := 94) (st := []) 12 C (pt_X12_takes hI y25) dX12_ruleClause_94 (by decide) hI.1 g1826 g1828 g83 g157 g1829 hd_X12_takes rfl ⟨Nat.le_of_ble_eq_true rfl, Nat.le_of_ble_eq_true rfl⟩ ⟨Nat.le_of_ble_eq_true rfl, Nat.le_of_ble_eq_true rfl⟩ rfl (Nat.le_of_ble_eq_true rfl) ?_
        rcases it_e hf with ⟨c27, hf⟩ | ⟨c27, hf⟩
        · refine e_if_eq (pc := 97) (tgt := 104) C dX12_ruleClause_97 (by decide) (fun _ => ?_) (fun q => absurd c27 q)
          refine e_lv (lv2 := [(0, .ref M), (3, .int x14)]) [2, 0] rfl ?_
          exact W_104 w24 hf
        · refine e_if_eq (pc := 97) (tgt := 104) C dX12_ruleClause_97 (by decide) (fun q => absurd q c27) (fun _ => ?_)
          refine e_aload_n (pc := 100) C dX12_ruleClause_100 2 rfl rfl ?_
          obtain ⟨w28, y29, hf⟩ := ob_e hf
          refine e_callVv (pc := 101) (st := []) 12 C (pt_X12_test hI y29) dX12_ruleClause_101 (by decide) hI.1 g1830 g1832 g84 g157 g1833 hd_X12_test rfl ⟨Nat.le_of_ble_eq_true rfl, Nat.le_of_ble_eq_true rfl⟩ ⟨Nat.le_of_ble_eq_true rfl, Nat.le_of_ble_eq_true rfl⟩ rfl (Nat.le_of_ble_eq_true rfl) ?_
          refine e_lv (lv2 := [(0, .ref M), (3, .int x14)]) [2, 0] rfl ?_
          exact W_104 w28 hf
      · refine e_if_ne (pc := 87) (tgt := 104) C dX12_ruleClause_87 (by decide) (fun _ => ?_) (fun q => absurd q c23)
        refine e_lv (lv2 := [(0, .ref M), (3, .int x14)]) [2, 0] rfl ?_
        exact W_104 w20 hf
theorem dX12_rule_0 : decode cX12_rule 0 = .ok (.aload_n 0, 1) := by decide +kernel
theorem dX12_rule_1 : decode cX12_rule 1 = .ok (.getfield 406, 3) := by decide +kernel
theorem dX12_rule_4 : decode cX12_rule 4 = .ok (.bipush 6, 2) := by decide +kernel
theorem dX12_rule_6 : decode cX12_rule 6 = .ok (.if_icmp .ne 5, 3) := by decide +kernel
theorem dX12_rule_9 : decode cX12_rule 9 = .ok (.iconst (-1), 1) := by decide +kernel
theorem dX12_rule_10 : decode cX12_rule 10 = .ok (.ireturn, 1) := by decide +kernel
theorem dX12_rule_11 : decode cX12_rule 11 = .ok (.aload_n 0, 1) := by decide +kernel
theorem dX12_rule_12 : decode cX12_rule 12 = .ok (.aload_n 0, 1) := by decide +kernel
theorem dX12_rule_13 : decode cX12_rule 13 = .ok (.getfield 406, 3) := by decide +kernel
theorem dX12_rule_16 : decode cX12_rule 16 = .ok (.putfield 273, 3) := by decide +kernel
theorem dX12_rule_19 : decode cX12_rule 19 = .ok (.aload_n 0, 1) := by decide +kernel
theorem dX12_rule_20 : decode cX12_rule 20 = .ok (.invokevirtual 374, 3) := by decide +kernel
theorem dX12_rule_23 : decode cX12_rule 23 = .ok (.iconst 0, 1) := by decide +kernel
theorem dX12_rule_24 : decode cX12_rule 24 = .ok (.istore_n 1, 1) := by decide +kernel
theorem dX12_rule_25 : decode cX12_rule 25 = .ok (.iconst 1, 1) := by decide +kernel
theorem dX12_rule_26 : decode cX12_rule 26 = .ok (.istore_n 2, 1) := by decide +kernel
theorem dX12_rule_27 : decode cX12_rule 27 = .ok (.iload_n 2, 1) := by decide +kernel
theorem dX12_rule_28 : decode cX12_rule 28 = .ok (.ifCond .eq 19, 3) := by decide +kernel
theorem dX12_rule_31 : decode cX12_rule 31 = .ok (.aload_n 0, 1) := by decide +kernel
theorem dX12_rule_32 : decode cX12_rule 32 = .ok (.iload_n 1, 1) := by decide +kernel
theorem dX12_rule_33 : decode cX12_rule 33 = .ok (.invokevirtual 409, 3) := by decide +kernel
theorem dX12_rule_36 : decode cX12_rule 36 = .ok (.iinc 1 1, 3) := by decide +kernel
theorem dX12_rule_39 : decode cX12_rule 39 = .ok (.aload_n 0, 1) := by decide +kernel
theorem dX12_rule_40 : decode cX12_rule 40 = .ok (.invokevirtual 380, 3) := by decide +kernel
theorem dX12_rule_43 : decode cX12_rule 43 = .ok (.istore_n 2, 1) := by decide +kernel
theorem dX12_rule_44 : decode cX12_rule 44 = .ok (.goto (-17), 3) := by decide +kernel
theorem dX12_rule_47 : decode cX12_rule 47 = .ok (.aload_n 0, 1) := by decide +kernel
theorem dX12_rule_48 : decode cX12_rule 48 = .ok (.iconst 0, 1) := by decide +kernel
theorem dX12_rule_49 : decode cX12_rule 49 = .ok (.putfield 210, 3) := by decide +kernel
theorem dX12_rule_52 : decode cX12_rule 52 = .ok (.aload_n 0, 1) := by decide +kernel
theorem dX12_rule_53 : decode cX12_rule 53 = .ok (.getfield 117, 3) := by decide +kernel
theorem dX12_rule_56 : decode cX12_rule 56 = .ok (.aload_n 0, 1) := by decide +kernel
theorem dX12_rule_57 : decode cX12_rule 57 = .ok (.getfield 273, 3) := by decide +kernel
theorem dX12_rule_60 : decode cX12_rule 60 = .ok (.iload_n 1, 1) := by decide +kernel
theorem dX12_rule_61 : decode cX12_rule 61 = .ok (.iastore, 1) := by decide +kernel
theorem dX12_rule_62 : decode cX12_rule 62 = .ok (.aload_n 0, 1) := by decide +kernel
theorem dX12_rule_63 : decode cX12_rule 63 = .ok (.dup, 1) := by decide +kernel
theorem dX12_rule_64 : decode cX12_rule 64 = .ok (.getfield 406, 3) := by decide +kernel
theorem dX12_rule_67 : decode cX12_rule 67 = .ok (.aload_n 0, 1) := by decide +kernel
theorem dX12_rule_68 : decode cX12_rule 68 = .ok (.getfield 243, 3) := by decide +kernel
theorem dX12_rule_71 : decode cX12_rule 71 = .ok (.ifCond .ne 7, 3) := by decide +kernel
theorem dX12_rule_74 : decode cX12_rule 74 = .ok (.iconst 1, 1) := by decide +kernel
theorem dX12_rule_75 : decode cX12_rule 75 = .ok (.goto 4, 3) := by decide +kernel
theorem dX12_rule_78 : decode cX12_rule 78 = .ok (.iconst 0, 1) := by decide +kernel
theorem dX12_rule_79 : decode cX12_rule 79 = .ok (.iadd, 1) := by decide +kernel
theorem dX12_rule_80 : decode cX12_rule 80 = .ok (.putfield 406, 3) := by decide +kernel
theorem dX12_rule_83 : decode cX12_rule 83 = .ok (.aload_n 0, 1) := by decide +kernel
theorem dX12_rule_84 : decode cX12_rule 84 = .ok (.getfield 243, 3) := by decide +kernel
theorem dX12_rule_87 : decode cX12_rule 87 = .ok (.ifCond .le 13, 3) := by decide +kernel
theorem dX12_rule_90 : decode cX12_rule 90 = .ok (.bipush (-2), 2) := by decide +kernel
theorem dX12_rule_92 : decode cX12_rule 92 = .ok (.aload_n 0, 1) := by decide +kernel
theorem dX12_rule_93 : decode cX12_rule 93 = .ok (.getfield 243, 3) := by decide +kernel
theorem dX12_rule_96 : decode cX12_rule 96 = .ok (.isub, 1) := by decide +kernel
theorem dX12_rule_97 : decode cX12_rule 97 = .ok (.goto 9, 3) := by decide +kernel
theorem dX12_rule_100 : decode cX12_rule 100 = .ok (.aload_n 0, 1) := by decide +kernel
theorem dX12_rule_101 : decode cX12_rule 101 = .ok (.getfield 406, 3) := by decide +kernel
theorem dX12_rule_104 : decode cX12_rule 104 = .ok (.iconst 1, 1) := by decide +kernel
theorem dX12_rule_105 : decode cX12_rule 105 = .ok (.isub, 1) := by decide +kernel
theorem dX12_rule_106 : decode cX12_rule 106 = .ok (.ireturn, 1) := by decide +kernel
def P_X12_rule_27 (G : GG) (K_47 : Int32 → MS → Option (Int32 × MS)) (self_27 : Int32 → Int32 → MS → Option (Int32 × MS)) (v1 : Int32) (v2 : Int32) (w : MS) : Option (Int32 × MS) :=
if v2 = 0 then (K_47 v1 w) else
ob (p_X12_ruleClause G v1 w) fun w6 =>
nn (v1 + (1 : Int32)) fun x8 =>
cw (p_X12_goesOn G w6) fun r11 w9 =>
self_27 x8 r11 w9
def p_X12_rule (G : GG) (w : MS) : Option (Int32 × MS) :=
if (w.1 0 36) = (6 : Int32) then (some ((-1 : Int32), w)) else
nn (w_si w 0 35 (w.1 0 36)) fun w2 =>
ob (p_X12_starts G w2) fun w3 =>
lw2 (P_X12_rule_27 G (fun (v1_47 : Int32) (h_47 : MS) => (nn (w_si h_47 0 32 (0 : Int32)) fun w12 =>
ck (ixn 6 (w12.1 0 35) = true) <|
nn (w_si w12 45 (w12.1 0 35).toNatClampNeg v1_47) fun w14 =>
nn (fun (s0_79 : Int32) => (nn (w_si w14 0 36 ((w14.1 0 36) + s0_79)) fun w15 =>
if (w15.1 0 34) ≤ 0 then (some ((w15.1 0 36) - (1 : Int32), w15)) else
some ((-2 : Int32) - (w15.1 0 34), w15))) fun j_79 =>
if (w14.1 0 34) = 0 then (j_79 (1 : Int32)) else
j_79 (0 : Int32)))) bN (0 : Int32) (1 : Int32) w3
set_option maxHeartbeats 4000000 in
set_option maxRecDepth 100000 in
theorem ep_X12_rule_27 {G : GG} {p : Program} {l : Launch} {e : Env} {s : State} {m : MethodId} {args : Array Value} {below : List Frame} {meth : Method} {c : Code} {y : Int32 × MS} {M : Nat} {h : AH} (hI : MI h M) (C : Cx G cX12_rule RX12 p s m args meth c) (hm : c.maxLocals = 3) (hr : meth.sig.returnType = (some .int)) (hin : meth.name = yX12_rule.name) {K_47 : Int32 → MS → Option (Int32 × MS)} (hK_47 : ∀ (u1 : Int32) (w : MS), K_47 u1 w = some y → EE G p l e ({ frames := 12, cells := 0, slots := 0, locals := 262 } : Room) s m args below meth c (some (.int y.1), mh h M y.2) 0 0 47 [(0, .ref M), (1, .int u1)] [] (mh h M w) 0 0) :
    ∀ (n : Nat) (v1 : Int32) (v2 : Int32) (w : MS), lw2 (P_X12_rule_27 G K_47) n v1 v2 w = some y → EE G p l e ({ frames := 12, cells := 0, slots := 0, locals := 262 } : Room) s m args below meth c (some (.int y.1), mh h M y.2) 0 0 27 [(0, .ref M), (1, .int v1), (2, .int v2)] [] (mh h M w) 0 0 := by
  intro n
  induction n with
  | zero => intro v1 v2 w hf; exact (no_e hf).elim
  | succ n ih_27 =>
    intro v1 v2 w hf
    have hf : P_X12_rule_27 G K_47 (lw2 (P_X12_rule_27 G K_47) n) v1 v2 w = some y := hf
    generalize lw2 (P_X12_rule_27 G K_47) n = self_27 at hf ih_27
    unfold P_X12_rule_27 at hf
    refine e_iload_n (pc := 27) C dX12_rule_27 2 rfl rfl ?_
    rcases it_e hf with ⟨c5, hf⟩ | ⟨c5, hf⟩
    · refine e_if_eq (pc := 28) (tgt := 47) C dX12_rule_28 (by decide) (fun _ => ?_) (fun q => absurd c5 q)
      refine e_lv (lv2 := [(0, .ref M), (1, .int v1)]) [0, 1] rfl ?_
      exact hK_47 v1 w hf
    · refine e_if_eq (pc := 28) (tgt := 47) C dX12_rule_28 (by decide) (fun q => absurd q c5) (fun _ => ?_)
      refine e_aload_n (pc := 31) C dX12_rule_31 0 rfl rfl ?_
      refine e_iload_n (pc := 32) C dX12_rule_32 1 rfl rfl ?_
      obtain ⟨w6, y7, hf⟩ := ob_e hf
      refine e_callVv (pc := 33) (st := []) 12 C (pt_X12_ruleClause hI y7) dX12_rule_33 (by decide) hI.1 g1786 g1788 g77 g157 g1789 hd_X12_ruleClause rfl ⟨Nat.le_of_ble_eq_true rfl, Nat.le_of_ble_eq_true rfl⟩ ⟨Nat.le_of_ble_eq_true rfl, Nat.le_of_ble_eq_true rfl⟩ rfl (Nat.le_of_ble_eq_true rfl) ?_
      obtain ⟨x8, ex8, hf⟩ := nn_e hf
      refine e_iinc (pc := 36) (v := x8) (lv2 := [(1, .int x8), (0, .ref M), (2, .int v2)]) C hm dX12_rule_36 1 rfl (by rw [ex8]; rfl) (by decide) rfl ?_
      refine e_aload_n (pc := 39) C dX12_rule_39 1 rfl rfl ?_
      obtain ⟨r11, w9, y10, hf⟩ := cw_e hf
      refine e_callVi (pc := 40) (st := []) 12 C (pt_X12_goesOn hI y10) dX12_rule_40 (by decide) hI.1 g1752 g1754 g71 g157 g1755 hd_X12_goesOn rfl ⟨Nat.le_of_ble_eq_true rfl, Nat.le_of_ble_eq_true rfl⟩ ⟨Nat.le_of_ble_eq_true rfl, Nat.le_of_ble_eq_true rfl⟩ rfl (Nat.le_of_ble_eq_true rfl) ?_
      refine e_istore_n (pc := 43) (lv2 := [(2, .int r11), (1, .int x8), (0, .ref M)]) C hm dX12_rule_43 rfl (by decide) rfl ?_
      refine e_goto (pc := 44) (tgt := 27) C dX12_rule_44 (by decide) ?_
      refine e_lv (lv2 := [(0, .ref M), (1, .int x8), (2, .int r11)]) [2, 1, 0] rfl ?_
      exact ih_27 x8 r11 w9 hf
set_option maxHeartbeats 4000000 in
set_option maxRecDepth 100000 in
theorem pt_X12_rule {G : GG} {l : Launch} {M : Nat} {h : AH} (hI : MI h M) {w : MS} {y : Int32 × MS} (hf : p_X12_rule G w = some y) : Ct G l yX12_rule cX12_rule 3 (some .int) 12 262 0 0 [.ref M] (mh h M w) (some (.int y.1), mh h M y.2) := by
  refine ct_of (by decide) (Nat.le_of_ble_eq_true rfl) ?_
  intro p e s m args below meth c C hm hr hin
  have C : Cx G cX12_rule RX12 p s m args meth c := C
  refine e_lv (lv2 := [(0, .ref M)]) [0] rfl ?_
  unfold p_X12_rule at hf
  refine e_aload_n (pc := 0) C dX12_rule_0 0 rfl rfl ?_
  refine q_geti (pc := 1) 36 hI C dX12_rule_1 (by decide) g1437 rfl ?_
  refine e_bipush (v := (6 : Int32)) (pc := 4) C dX12_rule_4 (by decide) ?_
  rcases it_e hf with ⟨c1, hf⟩ | ⟨c1, hf⟩
  · refine e_icmp_ne (pc := 6) (tgt := 11) C dX12_rule_6 (by decide) (fun q => absurd c1 q) (fun _ => ?_)
    refine e_iconst (v := (-1 : Int32)) (pc := 9) C dX12_rule_9 (by decide) ?_
    obtain rfl := so_e hf
    exact e_iret (pc := 10) C hr dX12_rule_10 (Nat.le_of_ble_eq_true rfl) (Nat.le_of_ble_eq_true rfl)
  · refine e_icmp_ne (pc := 6) (tgt := 11) C dX12_rule_6 (by decide) (fun _ => ?_) (fun q => absurd q c1)
    refine e_aload_n (pc := 11) C dX12_rule_11 0 rfl rfl ?_
    refine e_aload_n (pc := 12) C dX12_rule_12 0 rfl rfl ?_
    refine q_geti (pc := 13) 36 hI C dX12_rule_13 (by decide) g1437 rfl ?_
    refine q_puti (pc := 16) 35 hI C dX12_rule_16 (by decide) g1436 rfl rfl rfl rfl ?_
    obtain ⟨w2, ew2, hf⟩ := nn_e hf
    refine q_hp ew2 ?_
    refine e_aload_n (pc := 19) C dX12_rule_19 0 rfl rfl ?_
    obtain ⟨w3, y4, hf⟩ := ob_e hf
    refine e_callVv (pc := 20) (st := []) 12 C (pt_X12_starts hI y4) dX12_rule_20 (by decide) hI.1 g1678 g1680 g57 g157 g1681 hd_X12_starts rfl ⟨Nat.le_of_ble_eq_true rfl, Nat.le_of_ble_eq_true rfl⟩ ⟨Nat.le_of_ble_eq_true rfl, Nat.le_of_ble_eq_true rfl⟩ rfl (Nat.le_of_ble_eq_true rfl) ?_
    refine e_iconst (v := (0 : Int32)) (pc := 23) C dX12_rule_23 (by decide) ?_
    refine e_istore_n (pc := 24) (lv2 := [(1, .int (0 : Int32)), (0, .ref M)]) C hm dX12_rule_24 rfl (by decide) rfl ?_
    refine e_iconst (v := (1 : Int32)) (pc := 25) C dX12_rule_25 (by decide) ?_
    refine e_istore_n (pc := 26) (lv2 := [(2, .int (1 : Int32)), (1, .int (0 : Int32)), (0, .ref M)]) C hm dX12_rule_26 rfl (by decide) rfl ?_
    refine e_lv (lv2 := [(0, .ref M), (1, .int (0 : Int32)), (2, .int (1 : Int32))]) [2, 1, 0] rfl ?_
    refine ep_X12_rule_27 hI C hm hr hin (fun v1_47 h_47 hf => ?_) bN (0 : Int32) (1 : Int32) w3 hf
    refine e_aload_n (pc := 47) C dX12_rule_47 0 rfl rfl ?_
    refine e_iconst (v := (0 : Int32)) (pc := 48) C dX12_rule_48 (by decide) ?_
    refine q_puti (pc := 49) 32 hI C dX12_rule_49 (by decide) g1433 rfl rfl rfl rfl ?_
    obtain ⟨w12, ew12, hf⟩ := nn_e hf
    refine q_hp ew12 ?_
    refine e_aload_n (pc := 52) C dX12_rule_52 0 rfl rfl ?_
    refine q_getr (pc := 53) 45 hI C dX12_rule_53 (by decide) g1446 rfl rfl ?_
    refine e_aload_n (pc := 56) C dX12_rule_56 0 rfl rfl ?_
    refine q_geti (pc := 57) 35 hI C dX12_rule_57 (by decide) g1436 rfl ?_
    refine e_iload_n (pc := 60) C dX12_rule_60 1 rfl rfl ?_
    obtain ⟨q13, hf⟩ := ck_e hf
    refine q_iast (pc := 61) (k := 45) hI C dX12_rule_61 rfl (ixn_e q13) ?_
    obtain ⟨w14, ew14, hf⟩ := nn_e hf
    refine q_hp ew14 ?_
    refine e_aload_n (pc := 62) C dX12_rule_62 0 rfl rfl ?_
    refine e_dup (pc := 63) C dX12_rule_63 rfl ?_
    refine q_geti (pc := 64) 36 hI C dX12_rule_64 (by decide) g1437 rfl ?_
    refine e_aload_n (pc := 67) C dX12_rule_67 0 rfl rfl ?_
    refine q_geti (pc := 68) 34 hI C dX12_rule_68 (by decide) g1435 rfl ?_
    obtain ⟨j_79, ej_79, hf⟩ := nn_e hf
    have W_79 : ∀ (s0_79 : Int32), j_79 s0_79 = some y → EE G p l e ({ frames := 12, cells := 0, slots := 0, locals := 262 } : Room) s m args below meth c (some (.int y.1), mh h M y.2) 0 0 79 [(0, .ref M)] [.int s0_79, .int (w14.1 0 36), .ref M] (mh h M w14) 0 0 := by
      intro s0_79 hf
      rw [ej_79] at hf
      refine e_iadd (pc := 79) C dX12_rule_79 ?_
      refine q_puti (pc := 80) 36 hI C dX12_rule_80 (by decide) g1437 rfl rfl rfl rfl ?_
      obtain ⟨w15, ew15, hf⟩ := nn_e hf
      refine q_hp ew15 ?_
      refine e_aload_n (pc := 83) C dX12_rule_83 0 rfl rfl ?_
      refine q_geti (pc := 84) 34 hI C dX12_rule_84 (by decide) g1435 rfl ?_
      rcases it_e hf with ⟨c16, hf⟩ | ⟨c16, hf⟩
      · refine e_if_le (pc := 87) (tgt := 100) C dX12_rule_87 (by decide) (fun _ => ?_) (fun q => absurd c16 q)
        refine e_aload_n (pc := 100) C dX12_rule_100 0 rfl rfl ?_
        refine q_geti (pc := 101) 36 hI C dX12_rule_101 (by decide) g1437 rfl ?_
        refine e_iconst (v := (1 : Int32)) (pc := 104) C dX12_rule_104 (by decide) ?_
        refine e_isub (pc := 105) C dX12_rule_105 ?_
        obtain rfl := so_e hf
        exact e_iret (pc := 106) C hr dX12_rule_106 (Nat.le_of_ble_eq_true rfl) (Nat.le_of_ble_eq_true rfl)
      · refine e_if_le (pc := 87) (tgt := 100) C dX12_rule_87 (by decide) (fun q => absurd q c16) (fun _ => ?_)
        refine e_bipush (v := (-2 : Int32)) (pc := 90) C dX12_rule_90 (by decide) ?_
        refine e_aload_n (pc := 92) C dX12_rule_92 0 rfl rfl ?_
        refine q_geti (pc := 93) 34 hI C dX12_rule_93 (by decide) g1435 rfl ?_
        refine e_isub (pc := 96) C dX12_rule_96 ?_
        refine e_goto (pc := 97) (tgt := 106) C dX12_rule_97 (by decide) ?_
        obtain rfl := so_e hf
        exact e_iret (pc := 106) C hr dX12_rule_106 (Nat.le_of_ble_eq_true rfl) (Nat.le_of_ble_eq_true rfl)
    rcases it_e hf with ⟨c17, hf⟩ | ⟨c17, hf⟩
    · refine e_if_ne (pc := 71) (tgt := 78) C dX12_rule_71 (by decide) (fun q => absurd c17 q) (fun _ => ?_)
      refine e_iconst (v := (1 : Int32)) (pc := 74) C dX12_rule_74 (by decide) ?_
      refine e_goto (pc := 75) (tgt := 79) C dX12_rule_75 (by decide) ?_
      refine e_lv (lv2 := [(0, .ref M)]) [0] rfl ?_
      exact W_79 (1 : Int32) hf
    · refine e_if_ne (pc := 71) (tgt := 78) C dX12_rule_71 (by decide) (fun _ => ?_) (fun q => absurd q c17)
      refine e_iconst (v := (0 : Int32)) (pc := 78) C dX12_rule_78 (by decide) ?_
      refine e_lv (lv2 := [(0, .ref M)]) [0] rfl ?_
      exact W_79 (0 : Int32) hf
theorem dX12_force_0 : decode cX12_force 0 = .ok (.iload_n 1, 1) := by decide +kernel
theorem dX12_force_1 : decode cX12_force 1 = .ok (.i2l, 1) := by decide +kernel
theorem dX12_force_2 : decode cX12_force 2 = .ok (.ldc2_w 412, 3) := by decide +kernel
theorem dX12_force_5 : decode cX12_force 5 = .ok (.aload_n 0, 1) := by decide +kernel
theorem dX12_force_6 : decode cX12_force 6 = .ok (.getfield 406, 3) := by decide +kernel
theorem dX12_force_9 : decode cX12_force 9 = .ok (.iconst 1, 1) := by decide +kernel
theorem dX12_force_10 : decode cX12_force 10 = .ok (.isub, 1) := by decide +kernel
theorem dX12_force_11 : decode cX12_force 11 = .ok (.i2l, 1) := by decide +kernel
theorem dX12_force_12 : decode cX12_force 12 = .ok (.invokestatic 206, 3) := by decide +kernel
theorem dX12_force_15 : decode cX12_force 15 = .ok (.ifCond .ne 6, 3) := by decide +kernel
theorem dX12_force_18 : decode cX12_force 18 = .ok (.bipush (-2), 2) := by decide +kernel
theorem dX12_force_20 : decode cX12_force 20 = .ok (.ireturn, 1) := by decide +kernel
theorem dX12_force_21 : decode cX12_force 21 = .ok (.aload_n 0, 1) := by decide +kernel
theorem dX12_force_22 : decode cX12_force 22 = .ok (.getfield 9, 3) := by decide +kernel
theorem dX12_force_25 : decode cX12_force 25 = .ok (.bipush 16, 2) := by decide +kernel
theorem dX12_force_27 : decode cX12_force 27 = .ok (.iaload, 1) := by decide +kernel
theorem dX12_force_28 : decode cX12_force 28 = .ok (.istore_n 2, 1) := by decide +kernel
theorem dX12_force_29 : decode cX12_force 29 = .ok (.aload_n 0, 1) := by decide +kernel
theorem dX12_force_30 : decode cX12_force 30 = .ok (.getfield 9, 3) := by decide +kernel
theorem dX12_force_33 : decode cX12_force 33 = .ok (.bipush 16, 2) := by decide +kernel
theorem dX12_force_35 : decode cX12_force 35 = .ok (.iload_n 1, 1) := by decide +kernel
theorem dX12_force_36 : decode cX12_force 36 = .ok (.iastore, 1) := by decide +kernel
theorem dX12_force_37 : decode cX12_force 37 = .ok (.iload_n 2, 1) := by decide +kernel
theorem dX12_force_38 : decode cX12_force 38 = .ok (.ireturn, 1) := by decide +kernel
def p_X12_force (G : GG) (v1 : Int32) (w : MS) : Option (Int32 × MS) :=
cw (p_X12_in G v1.toInt64 (-1 : Int64) (((w.1 0 36) - (1 : Int32)).toInt64) w) fun r3 w1 =>
if r3 = 0 then (some ((-2 : Int32), w1)) else
ck (ixn 17 (16 : Int32) = true) <|
nn (w1.1 1 (16 : Int32).toNatClampNeg) fun x6 =>
ck (ixn 17 (16 : Int32) = true) <|
nn (w_si w1 1 (16 : Int32).toNatClampNeg v1) fun w8 =>
some (x6, w8)
set_option maxHeartbeats 4000000 in
set_option maxRecDepth 100000 in
theorem pt_X12_force {G : GG} {l : Launch} {M : Nat} {h : AH} (hI : MI h M) {v1 : Int32} {w : MS} {y : Int32 × MS} (hf : p_X12_force G v1 w = some y) : Ct G l yX12_force cX12_force 3 (some .int) 1 25 0 0 [.ref M, .int v1] (mh h M w) (some (.int y.1), mh h M y.2) := by
  refine ct_of (by decide) (Nat.le_of_ble_eq_true rfl) ?_
  intro p e s m args below meth c C hm hr hin
  have C : Cx G cX12_force RX12 p s m args meth c := C
  refine e_lv (lv2 := [(0, .ref M), (1, .int v1)]) [0, 1] rfl ?_
  unfold p_X12_force at hf
  refine e_iload_n (pc := 0) C dX12_force_0 1 rfl rfl ?_
  refine e_i2l (pc := 1) C dX12_force_1 ?_
  refine e_ldc2 (pc := 2) C dX12_force_2 g1861 ?_
  refine e_aload_n (pc := 5) C dX12_force_5 0 rfl rfl ?_
  refine q_geti (pc := 6) 36 hI C dX12_force_6 (by decide) g1437 rfl ?_
  refine e_iconst (v := (1 : Int32)) (pc := 9) C dX12_force_9 (by decide) ?_
  refine e_isub (pc := 10) C dX12_force_10 ?_
  refine e_i2l (pc := 11) C dX12_force_11 ?_
  obtain ⟨r3, w1, y2, hf⟩ := cw_e hf
  refine e_callSi (pc := 12) (st := []) C (pt_X12_in hI y2) dX12_force_12 g1737 g1738 g157 g1739 hd_X12_in rfl ⟨Nat.le_of_ble_eq_true rfl, Nat.le_of_ble_eq_true rfl⟩ ⟨Nat.le_of_ble_eq_true rfl, Nat.le_of_ble_eq_true rfl⟩ rfl (Nat.le_of_ble_eq_true rfl) ?_
  rcases it_e hf with ⟨c4, hf⟩ | ⟨c4, hf⟩
  · refine e_if_ne (pc := 15) (tgt := 21) C dX12_force_15 (by decide) (fun q => absurd c4 q) (fun _ => ?_)
    refine e_bipush (v := (-2 : Int32)) (pc := 18) C dX12_force_18 (by decide) ?_
    obtain rfl := so_e hf
    exact e_iret (pc := 20) C hr dX12_force_20 (Nat.le_of_ble_eq_true rfl) (Nat.le_of_ble_eq_true rfl)
  · refine e_if_ne (pc := 15) (tgt := 21) C dX12_force_15 (by decide) (fun _ => ?_) (fun q => absurd q c4)
    refine e_aload_n (pc := 21) C dX12_force_21 0 rfl rfl ?_
    refine q_getr (pc := 22) 1 hI C dX12_force_22 (by decide) g1402 rfl rfl ?_
    refine e_bipush (v := (16 : Int32)) (pc := 25) C dX12_force_25 (by decide) ?_
    obtain ⟨q5, hf⟩ := ck_e hf
    refine q_iald (pc := 27) (k := 1) hI C dX12_force_27 rfl (ixn_e q5) ?_
    obtain ⟨x6, ex6, hf⟩ := nn_e hf
    refine e_topi ex6 ?_
    refine e_istore_n (pc := 28) (lv2 := [(2, .int x6), (0, .ref M), (1, .int v1)]) C hm dX12_force_28 rfl (by decide) rfl ?_
    refine e_aload_n (pc := 29) C dX12_force_29 1 rfl rfl ?_
    refine q_getr (pc := 30) 1 hI C dX12_force_30 (by decide) g1402 rfl rfl ?_
    refine e_bipush (v := (16 : Int32)) (pc := 33) C dX12_force_33 (by decide) ?_
    refine e_iload_n (pc := 35) C dX12_force_35 2 rfl rfl ?_
    obtain ⟨q7, hf⟩ := ck_e hf
    refine q_iast (pc := 36) (k := 1) hI C dX12_force_36 rfl (ixn_e q7) ?_
    obtain ⟨w8, ew8, hf⟩ := nn_e hf
    refine q_hp ew8 ?_
    refine e_iload_n (pc := 37) C dX12_force_37 0 rfl rfl ?_
    obtain rfl := so_e hf
    exact e_iret (pc := 38) C hr dX12_force_38 (Nat.le_of_ble_eq_true rfl) (Nat.le_of_ble_eq_true rfl)
theorem dX12_truth_0 : decode cX12_truth 0 = .ok (.iload_n 0, 1) := by decide +kernel
theorem dX12_truth_1 : decode cX12_truth 1 = .ok (.ifCond .eq 7, 3) := by decide +kernel
theorem dX12_truth_4 : decode cX12_truth 4 = .ok (.lconst 1, 1) := by decide +kernel
theorem dX12_truth_5 : decode cX12_truth 5 = .ok (.goto 4, 3) := by decide +kernel
theorem dX12_truth_8 : decode cX12_truth 8 = .ok (.lconst 0, 1) := by decide +kernel
theorem dX12_truth_9 : decode cX12_truth 9 = .ok (.lreturn, 1) := by decide +kernel
def p_X12_truth (G : GG) (v0 : Int32) (w : MS) : Option (Int64 × MS) :=
if v0 = 0 then (some ((0 : Int64), w)) else
some ((1 : Int64), w)
set_option maxHeartbeats 4000000 in
set_option maxRecDepth 100000 in
theorem pt_X12_truth {G : GG} {l : Launch} {M : Nat} {h : AH} (hI : MI h M) {v0 : Int32} {w : MS} {y : Int64 × MS} (hf : p_X12_truth G v0 w = some y) : Ct G l yX12_truth cX12_truth 1 (some .long) 0 0 0 0 [.int v0] (mh h M w) (some (.long y.1), mh h M y.2) := by
  refine ct_of (by decide) (Nat.le_of_ble_eq_true rfl) ?_
  intro p e s m args below meth c C hm hr hin
  have C : Cx G cX12_truth RX12 p s m args meth c := C
  refine e_lv (lv2 := [(0, .int v0)]) [0] rfl ?_
  unfold p_X12_truth at hf
  refine e_iload_n (pc := 0) C dX12_truth_0 0 rfl rfl ?_
  rcases it_e hf with ⟨c1, hf⟩ | ⟨c1, hf⟩
  · refine e_if_eq (pc := 1) (tgt := 8) C dX12_truth_1 (by decide) (fun _ => ?_) (fun q => absurd c1 q)
    refine e_lconst (v := (0 : Int64)) (pc := 8) C dX12_truth_8 (by decide) ?_
    obtain rfl := so_e hf
    exact e_lret (pc := 9) C hr dX12_truth_9 (Nat.le_of_ble_eq_true rfl) (Nat.le_of_ble_eq_true rfl)
  · refine e_if_eq (pc := 1) (tgt := 8) C dX12_truth_1 (by decide) (fun q => absurd q c1) (fun _ => ?_)
    refine e_lconst (v := (1 : Int64)) (pc := 4) C dX12_truth_4 (by decide) ?_
    refine e_goto (pc := 5) (tgt := 9) C dX12_truth_5 (by decide) ?_
    obtain rfl := so_e hf
    exact e_lret (pc := 9) C hr dX12_truth_9 (Nat.le_of_ble_eq_true rfl) (Nat.le_of_ble_eq_true rfl)
theorem dX12_both_0 : decode cX12_both 0 = .ok (.iload_n 0, 1) := by decide +kernel
theorem dX12_both_1 : decode cX12_both 1 = .ok (.tableswitch 190 2 15 #[71, 75, 111, 126, 141, 156, 171, 190, 186, 190, 190, 79, 83, 97], 71) := by decide +kernel
theorem dX12_both_72 : decode cX12_both 72 = .ok (.lload_n 1, 1) := by decide +kernel
theorem dX12_both_73 : decode cX12_both 73 = .ok (.lload_n 3, 1) := by decide +kernel
theorem dX12_both_74 : decode cX12_both 74 = .ok (.ladd, 1) := by decide +kernel
theorem dX12_both_75 : decode cX12_both 75 = .ok (.lreturn, 1) := by decide +kernel
theorem dX12_both_76 : decode cX12_both 76 = .ok (.lload_n 1, 1) := by decide +kernel
theorem dX12_both_77 : decode cX12_both 77 = .ok (.lload_n 3, 1) := by decide +kernel
theorem dX12_both_78 : decode cX12_both 78 = .ok (.lsub, 1) := by decide +kernel
theorem dX12_both_79 : decode cX12_both 79 = .ok (.lreturn, 1) := by decide +kernel
theorem dX12_both_80 : decode cX12_both 80 = .ok (.lload_n 1, 1) := by decide +kernel
theorem dX12_both_81 : decode cX12_both 81 = .ok (.lload_n 3, 1) := by decide +kernel
theorem dX12_both_82 : decode cX12_both 82 = .ok (.lmul, 1) := by decide +kernel
theorem dX12_both_83 : decode cX12_both 83 = .ok (.lreturn, 1) := by decide +kernel
theorem dX12_both_84 : decode cX12_both 84 = .ok (.lload_n 3, 1) := by decide +kernel
theorem dX12_both_85 : decode cX12_both 85 = .ok (.lconst 0, 1) := by decide +kernel
theorem dX12_both_86 : decode cX12_both 86 = .ok (.lcmp, 1) := by decide +kernel
theorem dX12_both_87 : decode cX12_both 87 = .ok (.ifCond .ne 7, 3) := by decide +kernel
theorem dX12_both_90 : decode cX12_both 90 = .ok (.lconst 0, 1) := by decide +kernel
theorem dX12_both_91 : decode cX12_both 91 = .ok (.goto 6, 3) := by decide +kernel
theorem dX12_both_94 : decode cX12_both 94 = .ok (.lload_n 1, 1) := by decide +kernel
theorem dX12_both_95 : decode cX12_both 95 = .ok (.lload_n 3, 1) := by decide +kernel
theorem dX12_both_96 : decode cX12_both 96 = .ok (.ldiv, 1) := by decide +kernel
theorem dX12_both_97 : decode cX12_both 97 = .ok (.lreturn, 1) := by decide +kernel
theorem dX12_both_98 : decode cX12_both 98 = .ok (.lload_n 3, 1) := by decide +kernel
theorem dX12_both_99 : decode cX12_both 99 = .ok (.lconst 0, 1) := by decide +kernel
theorem dX12_both_100 : decode cX12_both 100 = .ok (.lcmp, 1) := by decide +kernel
theorem dX12_both_101 : decode cX12_both 101 = .ok (.ifCond .ne 7, 3) := by decide +kernel
theorem dX12_both_104 : decode cX12_both 104 = .ok (.lconst 0, 1) := by decide +kernel
theorem dX12_both_105 : decode cX12_both 105 = .ok (.goto 6, 3) := by decide +kernel
theorem dX12_both_108 : decode cX12_both 108 = .ok (.lload_n 1, 1) := by decide +kernel
theorem dX12_both_109 : decode cX12_both 109 = .ok (.lload_n 3, 1) := by decide +kernel
theorem dX12_both_110 : decode cX12_both 110 = .ok (.lrem, 1) := by decide +kernel
theorem dX12_both_111 : decode cX12_both 111 = .ok (.lreturn, 1) := by decide +kernel
theorem dX12_both_112 : decode cX12_both 112 = .ok (.lload_n 1, 1) := by decide +kernel
theorem dX12_both_113 : decode cX12_both 113 = .ok (.lload_n 3, 1) := by decide +kernel
theorem dX12_both_114 : decode cX12_both 114 = .ok (.lcmp, 1) := by decide +kernel
theorem dX12_both_115 : decode cX12_both 115 = .ok (.ifCond .ge 7, 3) := by decide +kernel
theorem dX12_both_118 : decode cX12_both 118 = .ok (.iconst 1, 1) := by decide +kernel
theorem dX12_both_119 : decode cX12_both 119 = .ok (.goto 4, 3) := by decide +kernel
theorem dX12_both_122 : decode cX12_both 122 = .ok (.iconst 0, 1) := by decide +kernel
theorem dX12_both_123 : decode cX12_both 123 = .ok (.invokestatic 422, 3) := by decide +kernel
theorem dX12_both_126 : decode cX12_both 126 = .ok (.lreturn, 1) := by decide +kernel
theorem dX12_both_127 : decode cX12_both 127 = .ok (.lload_n 1, 1) := by decide +kernel
theorem dX12_both_128 : decode cX12_both 128 = .ok (.lload_n 3, 1) := by decide +kernel
theorem dX12_both_129 : decode cX12_both 129 = .ok (.lcmp, 1) := by decide +kernel
theorem dX12_both_130 : decode cX12_both 130 = .ok (.ifCond .gt 7, 3) := by decide +kernel
theorem dX12_both_133 : decode cX12_both 133 = .ok (.iconst 1, 1) := by decide +kernel
theorem dX12_both_134 : decode cX12_both 134 = .ok (.goto 4, 3) := by decide +kernel
theorem dX12_both_137 : decode cX12_both 137 = .ok (.iconst 0, 1) := by decide +kernel
theorem dX12_both_138 : decode cX12_both 138 = .ok (.invokestatic 422, 3) := by decide +kernel
theorem dX12_both_141 : decode cX12_both 141 = .ok (.lreturn, 1) := by decide +kernel
theorem dX12_both_142 : decode cX12_both 142 = .ok (.lload_n 1, 1) := by decide +kernel
theorem dX12_both_143 : decode cX12_both 143 = .ok (.lload_n 3, 1) := by decide +kernel
theorem dX12_both_144 : decode cX12_both 144 = .ok (.lcmp, 1) := by decide +kernel
theorem dX12_both_145 : decode cX12_both 145 = .ok (.ifCond .ne 7, 3) := by decide +kernel
theorem dX12_both_148 : decode cX12_both 148 = .ok (.iconst 1, 1) := by decide +kernel
theorem dX12_both_149 : decode cX12_both 149 = .ok (.goto 4, 3) := by decide +kernel
theorem dX12_both_152 : decode cX12_both 152 = .ok (.iconst 0, 1) := by decide +kernel
theorem dX12_both_153 : decode cX12_both 153 = .ok (.invokestatic 422, 3) := by decide +kernel
theorem dX12_both_156 : decode cX12_both 156 = .ok (.lreturn, 1) := by decide +kernel
theorem dX12_both_157 : decode cX12_both 157 = .ok (.lload_n 1, 1) := by decide +kernel
theorem dX12_both_158 : decode cX12_both 158 = .ok (.lload_n 3, 1) := by decide +kernel
theorem dX12_both_159 : decode cX12_both 159 = .ok (.lcmp, 1) := by decide +kernel
theorem dX12_both_160 : decode cX12_both 160 = .ok (.ifCond .lt 7, 3) := by decide +kernel
theorem dX12_both_163 : decode cX12_both 163 = .ok (.iconst 1, 1) := by decide +kernel
theorem dX12_both_164 : decode cX12_both 164 = .ok (.goto 4, 3) := by decide +kernel
theorem dX12_both_167 : decode cX12_both 167 = .ok (.iconst 0, 1) := by decide +kernel
theorem dX12_both_168 : decode cX12_both 168 = .ok (.invokestatic 422, 3) := by decide +kernel
theorem dX12_both_171 : decode cX12_both 171 = .ok (.lreturn, 1) := by decide +kernel
theorem dX12_both_172 : decode cX12_both 172 = .ok (.lload_n 1, 1) := by decide +kernel
theorem dX12_both_173 : decode cX12_both 173 = .ok (.lload_n 3, 1) := by decide +kernel
theorem dX12_both_174 : decode cX12_both 174 = .ok (.lcmp, 1) := by decide +kernel
theorem dX12_both_175 : decode cX12_both 175 = .ok (.ifCond .le 7, 3) := by decide +kernel
theorem dX12_both_178 : decode cX12_both 178 = .ok (.iconst 1, 1) := by decide +kernel
theorem dX12_both_179 : decode cX12_both 179 = .ok (.goto 4, 3) := by decide +kernel
theorem dX12_both_182 : decode cX12_both 182 = .ok (.iconst 0, 1) := by decide +kernel
theorem dX12_both_183 : decode cX12_both 183 = .ok (.invokestatic 422, 3) := by decide +kernel
theorem dX12_both_186 : decode cX12_both 186 = .ok (.lreturn, 1) := by decide +kernel
theorem dX12_both_187 : decode cX12_both 187 = .ok (.lload_n 1, 1) := by decide +kernel
theorem dX12_both_188 : decode cX12_both 188 = .ok (.lload_n 3, 1) := by decide +kernel
theorem dX12_both_189 : decode cX12_both 189 = .ok (.land, 1) := by decide +kernel
theorem dX12_both_190 : decode cX12_both 190 = .ok (.lreturn, 1) := by decide +kernel
theorem dX12_both_191 : decode cX12_both 191 = .ok (.lload_n 1, 1) := by decide +kernel
theorem dX12_both_192 : decode cX12_both 192 = .ok (.lload_n 3, 1) := by decide +kernel
theorem dX12_both_193 : decode cX12_both 193 = .ok (.lor, 1) := by decide +kernel
theorem dX12_both_194 : decode cX12_both 194 = .ok (.lreturn, 1) := by decide +kernel
def p_X12_both (G : GG) (v0 : Int32) (v1 : Int64) (v3 : Int64) (w : MS) : Option (Int64 × MS) :=
if v0 = (2 : Int32) then (some (v1 + v3, w)) else
if v0 = (3 : Int32) then (some (v1 - v3, w)) else
if v0 = (4 : Int32) then (nn (fun (s0_123 : Int32) => (cw (p_X12_truth G s0_123 w) fun r6 w4 =>
some (r6, w4))) fun j_123 =>
if 0 ≤ (lg_cmp v1 v3) then (j_123 (0 : Int32)) else
j_123 (1 : Int32)) else
if v0 = (5 : Int32) then (nn (fun (s0_138 : Int32) => (cw (p_X12_truth G s0_138 w) fun r11 w9 =>
some (r11, w9))) fun j_138 =>
if 0 < (lg_cmp v1 v3) then (j_138 (0 : Int32)) else
j_138 (1 : Int32)) else
if v0 = (6 : Int32) then (nn (fun (s0_153 : Int32) => (cw (p_X12_truth G s0_153 w) fun r16 w14 =>
some (r16, w14))) fun j_153 =>
if (lg_cmp v1 v3) = 0 then (j_153 (1 : Int32)) else
j_153 (0 : Int32)) else
if v0 = (7 : Int32) then (nn (fun (s0_168 : Int32) => (cw (p_X12_truth G s0_168 w) fun r21 w19 =>
some (r21, w19))) fun j_168 =>
if (lg_cmp v1 v3) < 0 then (j_168 (0 : Int32)) else
j_168 (1 : Int32)) else
if v0 = (8 : Int32) then (nn (fun (s0_183 : Int32) => (cw (p_X12_truth G s0_183 w) fun r26 w24 =>
some (r26, w24))) fun j_183 =>
if (lg_cmp v1 v3) ≤ 0 then (j_183 (0 : Int32)) else
j_183 (1 : Int32)) else
if v0 = (9 : Int32) then (some (v1 ||| v3, w)) else
if v0 = (10 : Int32) then (some (v1 &&& v3, w)) else
if v0 = (11 : Int32) then (some (v1 ||| v3, w)) else
if v0 = (12 : Int32) then (some (v1 ||| v3, w)) else
if v0 = (13 : Int32) then (some (v1 * v3, w)) else
if v0 = (14 : Int32) then (if (lg_cmp v3 (0 : Int64)) = 0 then (some ((0 : Int64), w)) else
ck (¬ v3 = 0) <|
some (v1 / v3, w)) else
if v0 = (15 : Int32) then (if (lg_cmp v3 (0 : Int64)) = 0 then (some ((0 : Int64), w)) else
ck (¬ v3 = 0) <|
some (v1 - v1 / v3 * v3, w)) else
some (v1 ||| v3, w)
set_option maxHeartbeats 4000000 in
set_option maxRecDepth 100000 in
theorem pt_X12_both {G : GG} {l : Launch} {M : Nat} {h : AH} (hI : MI h M) {v0 : Int32} {v1 : Int64} {v3 : Int64} {w : MS} {y : Int64 × MS} (hf : p_X12_both G v0 v1 v3 w = some y) : Ct G l yX12_both cX12_both 5 (some .long) 1 20 0 0 [.int v0, .long v1, .long v3] (mh h M w) (some (.long y.1), mh h M y.2) := by
  refine ct_of (by decide) (Nat.le_of_ble_eq_true rfl) ?_
  intro p e s m args below meth c C hm hr hin
  have C : Cx G cX12_both RX12 p s m args meth c := C
  refine e_lv (lv2 := [(0, .int v0), (1, .long v1), (3, .long v3)]) [0, 1, 2] rfl ?_
  unfold p_X12_both at hf
  refine e_iload_n (pc := 0) C dX12_both_0 0 rfl rfl ?_
  rcases it_e hf with ⟨c1, hf⟩ | ⟨c1, hf⟩
  · refine e_tabK (pc := 1) (tgt := 72) (2 : Int32) c1 C dX12_both_1 (by decide) (by decide) rfl (by decide) ?_
    refine e_lload_n (pc := 72) C dX12_both_72 1 rfl rfl ?_
    refine e_lload_n (pc := 73) C dX12_both_73 2 rfl rfl ?_
    refine e_ladd (pc := 74) C dX12_both_74 ?_
    obtain rfl := so_e hf
    exact e_lret (pc := 75) C hr dX12_both_75 (Nat.le_of_ble_eq_true rfl) (Nat.le_of_ble_eq_true rfl)
  rcases it_e hf with ⟨c2, hf⟩ | ⟨c2, hf⟩
  · refine e_tabK (pc := 1) (tgt := 76) (3 : Int32) c2 C dX12_both_1 (by decide) (by decide) rfl (by decide) ?_
    refine e_lload_n (pc := 76) C dX12_both_76 1 rfl rfl ?_
    refine e_lload_n (pc := 77) C dX12_both_77 2 rfl rfl ?_
    refine e_lsub (pc := 78) C dX12_both_78 ?_
    obtain rfl := so_e hf
    exact e_lret (pc := 79) C hr dX12_both_79 (Nat.le_of_ble_eq_true rfl) (Nat.le_of_ble_eq_true rfl)
  rcases it_e hf with ⟨c3, hf⟩ | ⟨c3, hf⟩
  · refine e_tabK (pc := 1) (tgt := 112) (4 : Int32) c3 C dX12_both_1 (by decide) (by decide) rfl (by decide) ?_
    refine e_lload_n (pc := 112) C dX12_both_112 1 rfl rfl ?_
    refine e_lload_n (pc := 113) C dX12_both_113 2 rfl rfl ?_
    refine e_lcmp (pc := 114) C dX12_both_114 ?_
    obtain ⟨j_123, ej_123, hf⟩ := nn_e hf
    have W_123 : ∀ (s0_123 : Int32), j_123 s0_123 = some y → EE G p l e ({ frames := 1, cells := 0, slots := 0, locals := 20 } : Room) s m args below meth c (some (.long y.1), mh h M y.2) 0 0 123 [] [.int s0_123] (mh h M w) 0 0 := by
      intro s0_123 hf
      rw [ej_123] at hf
      obtain ⟨r6, w4, y5, hf⟩ := cw_e hf
      refine e_callSi (pc := 123) (st := []) C (pt_X12_truth hI y5) dX12_both_123 g1979 g1980 g157 g1981 hd_X12_truth rfl ⟨Nat.le_of_ble_eq_true rfl, Nat.le_of_ble_eq_true rfl⟩ ⟨Nat.le_of_ble_eq_true rfl, Nat.le_of_ble_eq_true rfl⟩ rfl (Nat.le_of_ble_eq_true rfl) ?_
      obtain rfl := so_e hf
      exact e_lret (pc := 126) C hr dX12_both_126 (Nat.le_of_ble_eq_true rfl) (Nat.le_of_ble_eq_true rfl)
    rcases it_e hf with ⟨c7, hf⟩ | ⟨c7, hf⟩
    · refine e_if_ge (pc := 115) (tgt := 122) C dX12_both_115 (by decide) (fun _ => ?_) (fun q => absurd c7 q)
      refine e_iconst (v := (0 : Int32)) (pc := 122) C dX12_both_122 (by decide) ?_
      refine e_lv (lv2 := []) [] rfl ?_
      exact W_123 (0 : Int32) hf
    · refine e_if_ge (pc := 115) (tgt := 122) C dX12_both_115 (by decide) (fun q => absurd q c7) (fun _ => ?_)
      refine e_iconst (v := (1 : Int32)) (pc := 118) C dX12_both_118 (by decide) ?_
      refine e_goto (pc := 119) (tgt := 123) C dX12_both_119 (by decide) ?_
      refine e_lv (lv2 := []) [] rfl ?_
      exact W_123 (1 : Int32) hf
  rcases it_e hf with ⟨c8, hf⟩ | ⟨c8, hf⟩
  · refine e_tabK (pc := 1) (tgt := 127) (5 : Int32) c8 C dX12_both_1 (by decide) (by decide) rfl (by decide) ?_
    refine e_lload_n (pc := 127) C dX12_both_127 1 rfl rfl ?_
    refine e_lload_n (pc := 128) C dX12_both_128 2 rfl rfl ?_
    refine e_lcmp (pc := 129) C dX12_both_129 ?_
    obtain ⟨j_138, ej_138, hf⟩ := nn_e hf
    have W_138 : ∀ (s0_138 : Int32), j_138 s0_138 = some y → EE G p l e ({ frames := 1, cells := 0, slots := 0, locals := 20 } : Room) s m args below meth c (some (.long y.1), mh h M y.2) 0 0 138 [] [.int s0_138] (mh h M w) 0 0 := by
      intro s0_138 hf
      rw [ej_138] at hf
      obtain ⟨r11, w9, y10, hf⟩ := cw_e hf
      refine e_callSi (pc := 138) (st := []) C (pt_X12_truth hI y10) dX12_both_138 g1979 g1980 g157 g1981 hd_X12_truth rfl ⟨Nat.le_of_ble_eq_true rfl, Nat.le_of_ble_eq_true rfl⟩ ⟨Nat.le_of_ble_eq_true rfl, Nat.le_of_ble_eq_true rfl⟩ rfl (Nat.le_of_ble_eq_true rfl) ?_
      obtain rfl := so_e hf
      exact e_lret (pc := 141) C hr dX12_both_141 (Nat.le_of_ble_eq_true rfl) (Nat.le_of_ble_eq_true rfl)
    rcases it_e hf with ⟨c12, hf⟩ | ⟨c12, hf⟩
    · refine e_if_gt (pc := 130) (tgt := 137) C dX12_both_130 (by decide) (fun _ => ?_) (fun q => absurd c12 q)
      refine e_iconst (v := (0 : Int32)) (pc := 137) C dX12_both_137 (by decide) ?_
      refine e_lv (lv2 := []) [] rfl ?_
      exact W_138 (0 : Int32) hf
    · refine e_if_gt (pc := 130) (tgt := 137) C dX12_both_130 (by decide) (fun q => absurd q c12) (fun _ => ?_)
      refine e_iconst (v := (1 : Int32)) (pc := 133) C dX12_both_133 (by decide) ?_
      refine e_goto (pc := 134) (tgt := 138) C dX12_both_134 (by decide) ?_
      refine e_lv (lv2 := []) [] rfl ?_
      exact W_138 (1 : Int32) hf
  rcases it_e hf with ⟨c13, hf⟩ | ⟨c13, hf⟩
  · refine e_tabK (pc := 1) (tgt := 142) (6 : Int32) c13 C dX12_both_1 (by decide) (by decide) rfl (by decide) ?_
    refine e_lload_n (pc := 142) C dX12_both_142 1 rfl rfl ?_
    refine e_lload_n (pc := 143) C dX12_both_143 2 rfl rfl ?_
    refine e_lcmp (pc := 144) C dX12_both_144 ?_
    obtain ⟨j_153, ej_153, hf⟩ := nn_e hf
    have W_153 : ∀ (s0_153 : Int32), j_153 s0_153 = some y → EE G p l e ({ frames := 1, cells := 0, slots := 0, locals := 20 } : Room) s m args below meth c (some (.long y.1), mh h M y.2) 0 0 153 [] [.int s0_153] (mh h M w) 0 0 := by
      intro s0_153 hf
      rw [ej_153] at hf
      obtain ⟨r16, w14, y15, hf⟩ := cw_e hf
      refine e_callSi (pc := 153) (st := []) C (pt_X12_truth hI y15) dX12_both_153 g1979 g1980 g157 g1981 hd_X12_truth rfl ⟨Nat.le_of_ble_eq_true rfl, Nat.le_of_ble_eq_true rfl⟩ ⟨Nat.le_of_ble_eq_true rfl, Nat.le_of_ble_eq_true rfl⟩ rfl (Nat.le_of_ble_eq_true rfl) ?_
      obtain rfl := so_e hf
      exact e_lret (pc := 156) C hr dX12_both_156 (Nat.le_of_ble_eq_true rfl) (Nat.le_of_ble_eq_true rfl)
    rcases it_e hf with ⟨c17, hf⟩ | ⟨c17, hf⟩
    · refine e_if_ne (pc := 145) (tgt := 152) C dX12_both_145 (by decide) (fun q => absurd c17 q) (fun _ => ?_)
      refine e_iconst (v := (1 : Int32)) (pc := 148) C dX12_both_148 (by decide) ?_
      refine e_goto (pc := 149) (tgt := 153) C dX12_both_149 (by decide) ?_
      refine e_lv (lv2 := []) [] rfl ?_
      exact W_153 (1 : Int32) hf
    · refine e_if_ne (pc := 145) (tgt := 152) C dX12_both_145 (by decide) (fun _ => ?_) (fun q => absurd q c17)
      refine e_iconst (v := (0 : Int32)) (pc := 152) C dX12_both_152 (by decide) ?_
      refine e_lv (lv2 := []) [] rfl ?_
      exact W_153 (0 : Int32) hf
  rcases it_e hf with ⟨c18, hf⟩ | ⟨c18, hf⟩
  · refine e_tabK (pc := 1) (tgt := 157) (7 : Int32) c18 C dX12_both_1 (by decide) (by decide) rfl (by decide) ?_
    refine e_lload_n (pc := 157) C dX12_both_157 1 rfl rfl ?_
    refine e_lload_n (pc := 158) C dX12_both_158 2 rfl rfl ?_
    refine e_lcmp (pc := 159) C dX12_both_159 ?_
    obtain ⟨j_168, ej_168, hf⟩ := nn_e hf
    have W_168 : ∀ (s0_168 : Int32), j_168 s0_168 = some y → EE G p l e ({ frames := 1, cells := 0, slots := 0, locals := 20 } : Room) s m args below meth c (some (.long y.1), mh h M y.2) 0 0 168 [] [.int s0_168] (mh h M w) 0 0 := by
      intro s0_168 hf
      rw [ej_168] at hf
      obtain ⟨r21, w19, y20, hf⟩ := cw_e hf
      refine e_callSi (pc := 168) (st := []) C (pt_X12_truth hI y20) dX12_both_168 g1979 g1980 g157 g1981 hd_X12_truth rfl ⟨Nat.le_of_ble_eq_true rfl, Nat.le_of_ble_eq_true rfl⟩ ⟨Nat.le_of_ble_eq_true rfl, Nat.le_of_ble_eq_true rfl⟩ rfl (Nat.le_of_ble_eq_true rfl) ?_
      obtain rfl := so_e hf
      exact e_lret (pc := 171) C hr dX12_both_171 (Nat.le_of_ble_eq_true rfl) (Nat.le_of_ble_eq_true rfl)
    rcases it_e hf with ⟨c22, hf⟩ | ⟨c22, hf⟩
    · refine e_if_lt (pc := 160) (tgt := 167) C dX12_both_160 (by decide) (fun _ => ?_) (fun q => absurd c22 q)
      refine e_iconst (v := (0 : Int32)) (pc := 167) C dX12_both_167 (by decide) ?_
      refine e_lv (lv2 := []) [] rfl ?_
      exact W_168 (0 : Int32) hf
    · refine e_if_lt (pc := 160) (tgt := 167) C dX12_both_160 (by decide) (fun q => absurd q c22) (fun _ => ?_)
      refine e_iconst (v := (1 : Int32)) (pc := 163) C dX12_both_163 (by decide) ?_
      refine e_goto (pc := 164) (tgt := 168) C dX12_both_164 (by decide) ?_
      refine e_lv (lv2 := []) [] rfl ?_
      exact W_168 (1 : Int32) hf
  rcases it_e hf with ⟨c23, hf⟩ | ⟨c23, hf⟩
  · refine e_tabK (pc := 1) (tgt := 172) (8 : Int32) c23 C dX12_both_1 (by decide) (by decide) rfl (by decide) ?_
    refine e_lload_n (pc := 172) C dX12_both_172 1 rfl rfl ?_
    refine e_lload_n (pc := 173) C dX12_both_173 2 rfl rfl ?_
    refine e_lcmp (pc := 174) C dX12_both_174 ?_
    obtain ⟨j_183, ej_183, hf⟩ := nn_e hf
    have W_183 : ∀ (s0_183 : Int32), j_183 s0_183 = some y → EE G p l e ({ frames := 1, cells := 0, slots := 0, locals := 20 } : Room) s m args below meth c (some (.long y.1), mh h M y.2) 0 0 183 [] [.int s0_183] (mh h M w) 0 0 := by
      intro s0_183 hf
      rw [ej_183] at hf
      obtain ⟨r26, w24, y25, hf⟩ := cw_e hf
      refine e_callSi (pc := 183) (st := []) C (pt_X12_truth hI y25) dX12_both_183 g1979 g1980 g157 g1981 hd_X12_truth rfl ⟨Nat.le_of_ble_eq_true rfl, Nat.le_of_ble_eq_true rfl⟩ ⟨Nat.le_of_ble_eq_true rfl, Nat.le_of_ble_eq_true rfl⟩ rfl (Nat.le_of_ble_eq_true rfl) ?_
      obtain rfl := so_e hf
      exact e_lret (pc := 186) C hr dX12_both_186 (Nat.le_of_ble_eq_true rfl) (Nat.le_of_ble_eq_true rfl)
    rcases it_e hf with ⟨c27, hf⟩ | ⟨c27, hf⟩
    · refine e_if_le (pc := 175) (tgt := 182) C dX12_both_175 (by decide) (fun _ => ?_) (fun q => absurd c27 q)
      refine e_iconst (v := (0 : Int32)) (pc := 182) C dX12_both_182 (by decide) ?_
      refine e_lv (lv2 := []) [] rfl ?_
      exact W_183 (0 : Int32) hf
    · refine e_if_le (pc := 175) (tgt := 182) C dX12_both_175 (by decide) (fun q => absurd q c27) (fun _ => ?_)
      refine e_iconst (v := (1 : Int32)) (pc := 178) C dX12_both_178 (by decide) ?_
      refine e_goto (pc := 179) (tgt := 183) C dX12_both_179 (by decide) ?_
      refine e_lv (lv2 := []) [] rfl ?_
      exact W_183 (1 : Int32) hf
  rcases it_e hf with ⟨c28, hf⟩ | ⟨c28, hf⟩
  · refine e_tabK (pc := 1) (tgt := 191) (9 : Int32) c28 C dX12_both_1 (by decide) (by decide) rfl (by decide) ?_
    refine e_lload_n (pc := 191) C dX12_both_191 1 rfl rfl ?_
    refine e_lload_n (pc := 192) C dX12_both_192 2 rfl rfl ?_
    refine e_lor (pc := 193) C dX12_both_193 ?_
    obtain rfl := so_e hf
    exact e_lret (pc := 194) C hr dX12_both_194 (Nat.le_of_ble_eq_true rfl) (Nat.le_of_ble_eq_true rfl)
  rcases it_e hf with ⟨c29, hf⟩ | ⟨c29, hf⟩
  · refine e_tabK (pc := 1) (tgt := 187) (10 : Int32) c29 C dX12_both_1 (by decide) (by decide) rfl (by decide) ?_
    refine e_lload_n (pc := 187) C dX12_both_187 1 rfl rfl ?_
    refine e_lload_n (pc := 188) C dX12_both_188 2 rfl rfl ?_
    refine e_land (pc := 189) C dX12_both_189 ?_
    obtain rfl := so_e hf
    exact e_lret (pc := 190) C hr dX12_both_190 (Nat.le_of_ble_eq_true rfl) (Nat.le_of_ble_eq_true rfl)
  rcases it_e hf with ⟨c30, hf⟩ | ⟨c30, hf⟩
  · refine e_tabK (pc := 1) (tgt := 191) (11 : Int32) c30 C dX12_both_1 (by decide) (by decide) rfl (by decide) ?_
    refine e_lload_n (pc := 191) C dX12_both_191 1 rfl rfl ?_
    refine e_lload_n (pc := 192) C dX12_both_192 2 rfl rfl ?_
    refine e_lor (pc := 193) C dX12_both_193 ?_
    obtain rfl := so_e hf
    exact e_lret (pc := 194) C hr dX12_both_194 (Nat.le_of_ble_eq_true rfl) (Nat.le_of_ble_eq_true rfl)
  rcases it_e hf with ⟨c31, hf⟩ | ⟨c31, hf⟩
  · refine e_tabK (pc := 1) (tgt := 191) (12 : Int32) c31 C dX12_both_1 (by decide) (by decide) rfl (by decide) ?_
    refine e_lload_n (pc := 191) C dX12_both_191 1 rfl rfl ?_
    refine e_lload_n (pc := 192) C dX12_both_192 2 rfl rfl ?_
    refine e_lor (pc := 193) C dX12_both_193 ?_
    obtain rfl := so_e hf
    exact e_lret (pc := 194) C hr dX12_both_194 (Nat.le_of_ble_eq_true rfl) (Nat.le_of_ble_eq_true rfl)
  rcases it_e hf with ⟨c32, hf⟩ | ⟨c32, hf⟩
  · refine e_tabK (pc := 1) (tgt := 80) (13 : Int32) c32 C dX12_both_1 (by decide) (by decide) rfl (by decide) ?_
    refine e_lload_n (pc := 80) C dX12_both_80 1 rfl rfl ?_
    refine e_lload_n (pc := 81) C dX12_both_81 2 rfl rfl ?_
    refine e_lmul (pc := 82) C dX12_both_82 ?_
    obtain rfl := so_e hf
    exact e_lret (pc := 83) C hr dX12_both_83 (Nat.le_of_ble_eq_true rfl) (Nat.le_of_ble_eq_true rfl)
  rcases it_e hf with ⟨c33, hf⟩ | ⟨c33, hf⟩
  · refine e_tabK (pc := 1) (tgt := 84) (14 : Int32) c33 C dX12_both_1 (by decide) (by decide) rfl (by decide) ?_
    refine e_lload_n (pc := 84) C dX12_both_84 2 rfl rfl ?_
    refine e_lconst (v := (0 : Int64)) (pc := 85) C dX12_both_85 (by decide) ?_
    refine e_lcmp (pc := 86) C dX12_both_86 ?_
    rcases it_e hf with ⟨c34, hf⟩ | ⟨c34, hf⟩
    · refine e_if_ne (pc := 87) (tgt := 94) C dX12_both_87 (by decide) (fun q => absurd c34 q) (fun _ => ?_)
      refine e_lconst (v := (0 : Int64)) (pc := 90) C dX12_both_90 (by decide) ?_
      refine e_goto (pc := 91) (tgt := 97) C dX12_both_91 (by decide) ?_
      obtain rfl := so_e hf
      exact e_lret (pc := 97) C hr dX12_both_97 (Nat.le_of_ble_eq_true rfl) (Nat.le_of_ble_eq_true rfl)
    · refine e_if_ne (pc := 87) (tgt := 94) C dX12_both_87 (by decide) (fun _ => ?_) (fun q => absurd q c34)
      refine e_lload_n (pc := 94) C dX12_both_94 1 rfl rfl ?_
      refine e_lload_n (pc := 95) C dX12_both_95 2 rfl rfl ?_
      obtain ⟨q35, hf⟩ := ck_e hf
      refine e_ldiv (pc := 96) C dX12_both_96 q35 ?_
      obtain rfl := so_e hf
      exact e_lret (pc := 97) C hr dX12_both_97 (Nat.le_of_ble_eq_true rfl) (Nat.le_of_ble_eq_true rfl)
  rcases it_e hf with ⟨c36, hf⟩ | ⟨c36, hf⟩
  · refine e_tabK (pc := 1) (tgt := 98) (15 : Int32) c36 C dX12_both_1 (by decide) (by decide) rfl (by decide) ?_
    refine e_lload_n (pc := 98) C dX12_both_98 2 rfl rfl ?_
    refine e_lconst (v := (0 : Int64)) (pc := 99) C dX12_both_99 (by decide) ?_
    refine e_lcmp (pc := 100) C dX12_both_100 ?_
    rcases it_e hf with ⟨c37, hf⟩ | ⟨c37, hf⟩
    · refine e_if_ne (pc := 101) (tgt := 108) C dX12_both_101 (by decide) (fun q => absurd c37 q) (fun _ => ?_)
      refine e_lconst (v := (0 : Int64)) (pc := 104) C dX12_both_104 (by decide) ?_
      refine e_goto (pc := 105) (tgt := 111) C dX12_both_105 (by decide) ?_
      obtain rfl := so_e hf
      exact e_lret (pc := 111) C hr dX12_both_111 (Nat.le_of_ble_eq_true rfl) (Nat.le_of_ble_eq_true rfl)
    · refine e_if_ne (pc := 101) (tgt := 108) C dX12_both_101 (by decide) (fun _ => ?_) (fun q => absurd q c37)
      refine e_lload_n (pc := 108) C dX12_both_108 1 rfl rfl ?_
      refine e_lload_n (pc := 109) C dX12_both_109 2 rfl rfl ?_
      obtain ⟨q38, hf⟩ := ck_e hf
      refine e_lrem (pc := 110) C dX12_both_110 q38 ?_
      obtain rfl := so_e hf
      exact e_lret (pc := 111) C hr dX12_both_111 (Nat.le_of_ble_eq_true rfl) (Nat.le_of_ble_eq_true rfl)
  refine e_tabOut (pc := 1) (tgt := 191) C dX12_both_1 (by have g0 := i_ne 2 (by decide) c1; have g1 := i_ne 3 (by decide) c2; have g2 := i_ne 4 (by decide) c3; have g3 := i_ne 5 (by decide) c8; have g4 := i_ne 6 (by decide) c13; have g5 := i_ne 7 (by decide) c18; have g6 := i_ne 8 (by decide) c23; have g7 := i_ne 9 (by decide) c28; have g8 := i_ne 10 (by decide) c29; have g9 := i_ne 11 (by decide) c30; have g10 := i_ne 12 (by decide) c31; have g11 := i_ne 13 (by decide) c32; have g12 := i_ne 14 (by decide) c33; have g13 := i_ne 15 (by decide) c36; omega) (by decide) ?_
  refine e_lload_n (pc := 191) C dX12_both_191 1 rfl rfl ?_
  refine e_lload_n (pc := 192) C dX12_both_192 2 rfl rfl ?_
  refine e_lor (pc := 193) C dX12_both_193 ?_
  obtain rfl := so_e hf
  exact e_lret (pc := 194) C hr dX12_both_194 (Nat.le_of_ble_eq_true rfl) (Nat.le_of_ble_eq_true rfl)
