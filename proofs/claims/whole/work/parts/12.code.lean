/-! Functions and walks, by a program of ours: X10_readClause X10_readTrain X3_init X0_init X6_init X7_init X4_init X1_init X11_init X11_feed X11_end X11_aMileOlder X11_alwaysKnob X0_seatBits X0_placeFor X0_changeRiders X0_begin X6_begin X11_train X3_takePull X3_write X3_readValue X3_isReckoning X3_readSum X3_isJoint X2_init X3_readComparison -/
theorem dX10_readClause_0 : decode cX10_readClause 0 = .ok (.aload_n 0, 1) := by decide +kernel
theorem dX10_readClause_1 : decode cX10_readClause 1 = .ok (.getfield 15, 3) := by decide +kernel
theorem dX10_readClause_4 : decode cX10_readClause 4 = .ok (.getfield 38, 3) := by decide +kernel
theorem dX10_readClause_7 : decode cX10_readClause 7 = .ok (.istore_n 3, 1) := by decide +kernel
theorem dX10_readClause_8 : decode cX10_readClause 8 = .ok (.iload_n 3, 1) := by decide +kernel
theorem dX10_readClause_9 : decode cX10_readClause 9 = .ok (.sipush 300, 3) := by decide +kernel
theorem dX10_readClause_12 : decode cX10_readClause 12 = .ok (.if_icmp .ge 14, 3) := by decide +kernel
theorem dX10_readClause_15 : decode cX10_readClause 15 = .ok (.aload_n 0, 1) := by decide +kernel
theorem dX10_readClause_16 : decode cX10_readClause 16 = .ok (.getfield 15, 3) := by decide +kernel
theorem dX10_readClause_19 : decode cX10_readClause 19 = .ok (.iconst 0, 1) := by decide +kernel
theorem dX10_readClause_20 : decode cX10_readClause 20 = .ok (.invokevirtual 48, 3) := by decide +kernel
theorem dX10_readClause_23 : decode cX10_readClause 23 = .ok (.goto 27, 3) := by decide +kernel
theorem dX10_readClause_26 : decode cX10_readClause 26 = .ok (.iload_n 2, 1) := by decide +kernel
theorem dX10_readClause_27 : decode cX10_readClause 27 = .ok (.bipush 40, 2) := by decide +kernel
theorem dX10_readClause_29 : decode cX10_readClause 29 = .ok (.if_icmp .eq 13, 3) := by decide +kernel
theorem dX10_readClause_32 : decode cX10_readClause 32 = .ok (.aload_n 0, 1) := by decide +kernel
theorem dX10_readClause_33 : decode cX10_readClause 33 = .ok (.aload_n 1, 1) := by decide +kernel
theorem dX10_readClause_34 : decode cX10_readClause 34 = .ok (.iload_n 3, 1) := by decide +kernel
theorem dX10_readClause_35 : decode cX10_readClause 35 = .ok (.iload_n 2, 1) := by decide +kernel
theorem dX10_readClause_36 : decode cX10_readClause 36 = .ok (.invokevirtual 51, 3) := by decide +kernel
theorem dX10_readClause_39 : decode cX10_readClause 39 = .ok (.ifCond .eq 11, 3) := by decide +kernel
theorem dX10_readClause_42 : decode cX10_readClause 42 = .ok (.aload_n 0, 1) := by decide +kernel
theorem dX10_readClause_43 : decode cX10_readClause 43 = .ok (.getfield 15, 3) := by decide +kernel
theorem dX10_readClause_46 : decode cX10_readClause 46 = .ok (.iconst 4, 1) := by decide +kernel
theorem dX10_readClause_47 : decode cX10_readClause 47 = .ok (.invokevirtual 48, 3) := by decide +kernel
theorem dX10_readClause_50 : decode cX10_readClause 50 = .ok (.aload_n 0, 1) := by decide +kernel
theorem dX10_readClause_51 : decode cX10_readClause 51 = .ok (.getfield 15, 3) := by decide +kernel
theorem dX10_readClause_54 : decode cX10_readClause 54 = .ok (.getfield 34, 3) := by decide +kernel
theorem dX10_readClause_57 : decode cX10_readClause 57 = .ok (.ifCond .eq 4, 3) := by decide +kernel
theorem dX10_readClause_60 : decode cX10_readClause 60 = .ok (.return_, 1) := by decide +kernel
theorem dX10_readClause_61 : decode cX10_readClause 61 = .ok (.aload_n 0, 1) := by decide +kernel
theorem dX10_readClause_62 : decode cX10_readClause 62 = .ok (.getfield 15, 3) := by decide +kernel
theorem dX10_readClause_65 : decode cX10_readClause 65 = .ok (.invokevirtual 55, 3) := by decide +kernel
theorem dX10_readClause_68 : decode cX10_readClause 68 = .ok (.iload_n 3, 1) := by decide +kernel
theorem dX10_readClause_69 : decode cX10_readClause 69 = .ok (.tableswitch 87 300 305 #[39, 47, 55, 63, 71, 79], 39) := by decide +kernel
theorem dX10_readClause_108 : decode cX10_readClause 108 = .ok (.aload_n 0, 1) := by decide +kernel
theorem dX10_readClause_109 : decode cX10_readClause 109 = .ok (.aload_n 1, 1) := by decide +kernel
theorem dX10_readClause_110 : decode cX10_readClause 110 = .ok (.invokevirtual 58, 3) := by decide +kernel
theorem dX10_readClause_113 : decode cX10_readClause 113 = .ok (.goto 48, 3) := by decide +kernel
theorem dX10_readClause_116 : decode cX10_readClause 116 = .ok (.aload_n 0, 1) := by decide +kernel
theorem dX10_readClause_117 : decode cX10_readClause 117 = .ok (.aload_n 1, 1) := by decide +kernel
theorem dX10_readClause_118 : decode cX10_readClause 118 = .ok (.invokevirtual 62, 3) := by decide +kernel
theorem dX10_readClause_121 : decode cX10_readClause 121 = .ok (.goto 40, 3) := by decide +kernel
theorem dX10_readClause_124 : decode cX10_readClause 124 = .ok (.aload_n 0, 1) := by decide +kernel
theorem dX10_readClause_125 : decode cX10_readClause 125 = .ok (.aload_n 1, 1) := by decide +kernel
theorem dX10_readClause_126 : decode cX10_readClause 126 = .ok (.invokevirtual 65, 3) := by decide +kernel
theorem dX10_readClause_129 : decode cX10_readClause 129 = .ok (.goto 32, 3) := by decide +kernel
theorem dX10_readClause_132 : decode cX10_readClause 132 = .ok (.aload_n 0, 1) := by decide +kernel
theorem dX10_readClause_133 : decode cX10_readClause 133 = .ok (.aload_n 1, 1) := by decide +kernel
theorem dX10_readClause_134 : decode cX10_readClause 134 = .ok (.invokevirtual 68, 3) := by decide +kernel
theorem dX10_readClause_137 : decode cX10_readClause 137 = .ok (.goto 24, 3) := by decide +kernel
theorem dX10_readClause_140 : decode cX10_readClause 140 = .ok (.aload_n 0, 1) := by decide +kernel
theorem dX10_readClause_141 : decode cX10_readClause 141 = .ok (.aload_n 1, 1) := by decide +kernel
theorem dX10_readClause_142 : decode cX10_readClause 142 = .ok (.invokevirtual 71, 3) := by decide +kernel
theorem dX10_readClause_145 : decode cX10_readClause 145 = .ok (.goto 16, 3) := by decide +kernel
theorem dX10_readClause_148 : decode cX10_readClause 148 = .ok (.aload_n 0, 1) := by decide +kernel
theorem dX10_readClause_149 : decode cX10_readClause 149 = .ok (.aload_n 1, 1) := by decide +kernel
theorem dX10_readClause_150 : decode cX10_readClause 150 = .ok (.invokevirtual 74, 3) := by decide +kernel
theorem dX10_readClause_153 : decode cX10_readClause 153 = .ok (.goto 8, 3) := by decide +kernel
theorem dX10_readClause_156 : decode cX10_readClause 156 = .ok (.aload_n 0, 1) := by decide +kernel
theorem dX10_readClause_157 : decode cX10_readClause 157 = .ok (.aload_n 1, 1) := by decide +kernel
theorem dX10_readClause_158 : decode cX10_readClause 158 = .ok (.invokevirtual 77, 3) := by decide +kernel
theorem dX10_readClause_161 : decode cX10_readClause 161 = .ok (.return_, 1) := by decide +kernel
def f_X10_readClause (G : GG) (v0 : Nat) (v1 : Nat) (v2 : Int32) (h : AH) : Option (AH) :=
ck (m_t h v0 = .inl 10) <|
ob (m_r h v0 0) fun b2 =>
ck (m_t h b2 = .inl 8) <|
nn (m_i h b2 7) fun x4 =>
nn (fun (h_50 : AH) => (ck (m_t h_50 v0 = .inl 10) <|
ob (m_r h_50 v0 0) fun b6 =>
ck (m_t h_50 b6 = .inl 8) <|
if (m_i h_50 b6 9) = 0 then (ob (m_r h_50 v0 0) fun b9 =>
ck (m_t h_50 b9 = .inl 8) <|
ob (f_X8_advance G b9 h_50) fun h11 =>
if x4 = (300 : Int32) then (ck (m_t h11 v0 = .inl 10) <|
ob (f_X10_readStart G v0 v1 h11) fun h15 =>
some h15) else
if x4 = (301 : Int32) then (ck (m_t h11 v0 = .inl 10) <|
ob (f_X10_readHole G v0 v1 h11) fun h19 =>
some h19) else
if x4 = (302 : Int32) then (ck (m_t h11 v0 = .inl 10) <|
ob (f_X10_readPerson G v0 v1 h11) fun h23 =>
some h23) else
if x4 = (303 : Int32) then (ck (m_t h11 v0 = .inl 10) <|
ob (f_X10_readFront G v0 v1 h11) fun h27 =>
some h27) else
if x4 = (304 : Int32) then (ck (m_t h11 v0 = .inl 10) <|
ob (f_X10_readSays G v0 v1 h11) fun h31 =>
some h31) else
if x4 = (305 : Int32) then (ck (m_t h11 v0 = .inl 10) <|
ob (f_X10_readTunnel G v0 v1 h11) fun h35 =>
some h35) else
ck (m_t h11 v0 = .inl 10) <|
ob (f_X10_readCold G v0 v1 h11) fun h38 =>
some h38) else
some h_50)) fun j_50 =>
if (300 : Int32) ≤ x4 then (nn (fun (h_42 : AH) => (ck (m_t h_42 v0 = .inl 10) <|
ob (m_r h_42 v0 0) fun b42 =>
ck (m_t h_42 b42 = .inl 8) <|
ob (f_X8_fail G b42 (4 : Int32) h_42) fun h44 =>
j_50 h44)) fun j_42 =>
if v2 = (40 : Int32) then (j_42 h) else
cb (f_X10_isOutOfPlace G v0 v1 x4 v2 h) fun r49 h47 =>
if r49 = 0 then (j_50 h47) else
j_42 h47) else
ob (m_r h v0 0) fun b51 =>
ck (m_t h b51 = .inl 8) <|
ob (f_X8_fail G b51 (0 : Int32) h) fun h53 =>
j_50 h53
set_option maxHeartbeats 4000000 in
set_option maxRecDepth 100000 in
theorem ct_X10_readClause {G : GG} {l : Launch} {v0 : Nat} {v1 : Nat} {v2 : Int32} {h : AH} {y : AH} (hf : f_X10_readClause G v0 v1 v2 h = some y) : Ct G l yX10_readClause cX10_readClause 4 none 3 67 0 0 [.ref v0, .ref v1, .int v2] h (none, y) := by
  refine ct_of (by decide) (Nat.le_of_ble_eq_true rfl) ?_
  intro p e s m args below meth c C hm hr hin
  have C : Cx G cX10_readClause RX10 p s m args meth c := C
  refine e_lv (lv2 := [(0, .ref v0), (1, .ref v1), (2, .int v2)]) [0, 1, 2] rfl ?_
  unfold f_X10_readClause at hf
  refine e_aload_n (pc := 0) C dX10_readClause_0 0 rfl rfl ?_
  obtain ⟨t1, hf⟩ := ck_e hf
  refine e_getr (pc := 1) 10 0 C dX10_readClause_1 (by decide) (by decide) g227 rfl t1 ?_
  obtain ⟨b2, eb2, hf⟩ := ob_e hf
  refine e_rf eb2 ?_
  obtain ⟨t3, hf⟩ := ck_e hf
  refine e_getiN (pc := 4) 8 7 C dX10_readClause_4 (by decide) (by decide) g190 rfl t3 ?_
  obtain ⟨x4, ex4, hf⟩ := nn_e hf
  refine e_topi ex4 ?_
  refine e_istore_n (pc := 7) (lv2 := [(3, .int x4), (0, .ref v0), (1, .ref v1), (2, .int v2)]) C hm dX10_readClause_7 rfl (by decide) rfl ?_
  refine e_iload_n (pc := 8) C dX10_readClause_8 0 rfl rfl ?_
  refine e_sipush (v := (300 : Int32)) (pc := 9) C dX10_readClause_9 (by decide) ?_
  obtain ⟨j_50, ej_50, hf⟩ := nn_e hf
  have W_50 : ∀ (h_50 : AH), j_50 h_50 = some y → EE G p l e ({ frames := 3, cells := 0, slots := 0, locals := 67 } : Room) s m args below meth c (none, y) 0 0 50 [(0, .ref v0), (1, .ref v1), (3, .int x4)] [] h_50 0 0 := by
    intro h_50 hf
    rw [ej_50] at hf
    refine e_aload_n (pc := 50) C dX10_readClause_50 0 rfl rfl ?_
    obtain ⟨t5, hf⟩ := ck_e hf
    refine e_getr (pc := 51) 10 0 C dX10_readClause_51 (by decide) (by decide) g227 rfl t5 ?_
    obtain ⟨b6, eb6, hf⟩ := ob_e hf
    refine e_rf eb6 ?_
    obtain ⟨t7, hf⟩ := ck_e hf
    refine e_getiN (pc := 54) 8 9 C dX10_readClause_54 (by decide) (by decide) g196 rfl t7 ?_
    rcases it_e hf with ⟨c8, hf⟩ | ⟨c8, hf⟩
    · refine e_if_eq (pc := 57) (tgt := 61) C dX10_readClause_57 (by decide) (fun _ => ?_) (fun q => absurd c8 q)
      refine e_aload_n (pc := 61) C dX10_readClause_61 0 rfl rfl ?_
      refine e_getr (pc := 62) 10 0 C dX10_readClause_62 (by decide) (by decide) g227 rfl t5 ?_
      obtain ⟨b9, eb9, hf⟩ := ob_e hf
      refine e_rf eb9 ?_
      obtain ⟨t10, hf⟩ := ck_e hf
      obtain ⟨h11, y12, hf⟩ := ob_e hf
      refine e_callVv (pc := 65) (st := []) 8 C (ct_X8_advance y12) dX10_readClause_65 (by decide) t10 g730 g715 g716 g147 g717 hd_X8_advance rfl ⟨Nat.le_of_ble_eq_true rfl, Nat.le_of_ble_eq_true rfl⟩ ⟨Nat.le_of_ble_eq_true rfl, Nat.le_of_ble_eq_true rfl⟩ rfl (Nat.le_of_ble_eq_true rfl) ?_
      refine e_iload_n (pc := 68) C dX10_readClause_68 2 rfl rfl ?_
      rcases it_e hf with ⟨c13, hf⟩ | ⟨c13, hf⟩
      · refine e_tabK (pc := 69) (tgt := 108) (300 : Int32) c13 C dX10_readClause_69 (by decide) (by decide) rfl (by decide) ?_
        refine e_aload_n (pc := 108) C dX10_readClause_108 0 rfl rfl ?_
        refine e_aload_n (pc := 109) C dX10_readClause_109 1 rfl rfl ?_
        obtain ⟨t14, hf⟩ := ck_e hf
        obtain ⟨h15, y16, hf⟩ := ob_e hf
        refine e_callVv (pc := 110) (st := []) 10 C (ct_X10_readStart y16) dX10_readClause_110 (by decide) t14 g731 g733 g7 g148 g734 hd_X10_readStart rfl ⟨Nat.le_of_ble_eq_true rfl, Nat.le_of_ble_eq_true rfl⟩ ⟨Nat.le_of_ble_eq_true rfl, Nat.le_of_ble_eq_true rfl⟩ rfl (Nat.le_of_ble_eq_true rfl) ?_
        refine e_goto (pc := 113) (tgt := 161) C dX10_readClause_113 (by decide) ?_
        obtain rfl := so_e hf
        exact e_vret (pc := 161) C hr dX10_readClause_161 (Nat.le_of_ble_eq_true rfl) (Nat.le_of_ble_eq_true rfl)
      rcases it_e hf with ⟨c17, hf⟩ | ⟨c17, hf⟩
      · refine e_tabK (pc := 69) (tgt := 116) (301 : Int32) c17 C dX10_readClause_69 (by decide) (by decide) rfl (by decide) ?_
        refine e_aload_n (pc := 116) C dX10_readClause_116 0 rfl rfl ?_
        refine e_aload_n (pc := 117) C dX10_readClause_117 1 rfl rfl ?_
        obtain ⟨t18, hf⟩ := ck_e hf
        obtain ⟨h19, y20, hf⟩ := ob_e hf
        refine e_callVv (pc := 118) (st := []) 10 C (ct_X10_readHole y20) dX10_readClause_118 (by decide) t18 g740 g742 g8 g148 g743 hd_X10_readHole rfl ⟨Nat.le_of_ble_eq_true rfl, Nat.le_of_ble_eq_true rfl⟩ ⟨Nat.le_of_ble_eq_true rfl, Nat.le_of_ble_eq_true rfl⟩ rfl (Nat.le_of_ble_eq_true rfl) ?_
        refine e_goto (pc := 121) (tgt := 161) C dX10_readClause_121 (by decide) ?_
        obtain rfl := so_e hf
        exact e_vret (pc := 161) C hr dX10_readClause_161 (Nat.le_of_ble_eq_true rfl) (Nat.le_of_ble_eq_true rfl)
      rcases it_e hf with ⟨c21, hf⟩ | ⟨c21, hf⟩
      · refine e_tabK (pc := 69) (tgt := 124) (302 : Int32) c21 C dX10_readClause_69 (by decide) (by decide) rfl (by decide) ?_
        refine e_aload_n (pc := 124) C dX10_readClause_124 0 rfl rfl ?_
        refine e_aload_n (pc := 125) C dX10_readClause_125 1 rfl rfl ?_
        obtain ⟨t22, hf⟩ := ck_e hf
        obtain ⟨h23, y24, hf⟩ := ob_e hf
        refine e_callVv (pc := 126) (st := []) 10 C (ct_X10_readPerson y24) dX10_readClause_126 (by decide) t22 g744 g746 g9 g148 g747 hd_X10_readPerson rfl ⟨Nat.le_of_ble_eq_true rfl, Nat.le_of_ble_eq_true rfl⟩ ⟨Nat.le_of_ble_eq_true rfl, Nat.le_of_ble_eq_true rfl⟩ rfl (Nat.le_of_ble_eq_true rfl) ?_
        refine e_goto (pc := 129) (tgt := 161) C dX10_readClause_129 (by decide) ?_
        obtain rfl := so_e hf
        exact e_vret (pc := 161) C hr dX10_readClause_161 (Nat.le_of_ble_eq_true rfl) (Nat.le_of_ble_eq_true rfl)
      rcases it_e hf with ⟨c25, hf⟩ | ⟨c25, hf⟩
      · refine e_tabK (pc := 69) (tgt := 132) (303 : Int32) c25 C dX10_readClause_69 (by decide) (by decide) rfl (by decide) ?_
        refine e_aload_n (pc := 132) C dX10_readClause_132 0 rfl rfl ?_
        refine e_aload_n (pc := 133) C dX10_readClause_133 1 rfl rfl ?_
        obtain ⟨t26, hf⟩ := ck_e hf
        obtain ⟨h27, y28, hf⟩ := ob_e hf
        refine e_callVv (pc := 134) (st := []) 10 C (ct_X10_readFront y28) dX10_readClause_134 (by decide) t26 g748 g750 g10 g148 g751 hd_X10_readFront rfl ⟨Nat.le_of_ble_eq_true rfl, Nat.le_of_ble_eq_true rfl⟩ ⟨Nat.le_of_ble_eq_true rfl, Nat.le_of_ble_eq_true rfl⟩ rfl (Nat.le_of_ble_eq_true rfl) ?_
        refine e_goto (pc := 137) (tgt := 161) C dX10_readClause_137 (by decide) ?_
        obtain rfl := so_e hf
        exact e_vret (pc := 161) C hr dX10_readClause_161 (Nat.le_of_ble_eq_true rfl) (Nat.le_of_ble_eq_true rfl)
      rcases it_e hf with ⟨c29, hf⟩ | ⟨c29, hf⟩
      · refine e_tabK (pc := 69) (tgt := 140) (304 : Int32) c29 C dX10_readClause_69 (by decide) (by decide) rfl (by decide) ?_
        refine e_aload_n (pc := 140) C dX10_readClause_140 0 rfl rfl ?_
        refine e_aload_n (pc := 141) C dX10_readClause_141 1 rfl rfl ?_
        obtain ⟨t30, hf⟩ := ck_e hf
        obtain ⟨h31, y32, hf⟩ := ob_e hf
        refine e_callVv (pc := 142) (st := []) 10 C (ct_X10_readSays y32) dX10_readClause_142 (by decide) t30 g756 g758 g11 g148 g759 hd_X10_readSays rfl ⟨Nat.le_of_ble_eq_true rfl, Nat.le_of_ble_eq_true rfl⟩ ⟨Nat.le_of_ble_eq_true rfl, Nat.le_of_ble_eq_true rfl⟩ rfl (Nat.le_of_ble_eq_true rfl) ?_
        refine e_goto (pc := 145) (tgt := 161) C dX10_readClause_145 (by decide) ?_
        obtain rfl := so_e hf
        exact e_vret (pc := 161) C hr dX10_readClause_161 (Nat.le_of_ble_eq_true rfl) (Nat.le_of_ble_eq_true rfl)
      rcases it_e hf with ⟨c33, hf⟩ | ⟨c33, hf⟩
      · refine e_tabK (pc := 69) (tgt := 148) (305 : Int32) c33 C dX10_readClause_69 (by decide) (by decide) rfl (by decide) ?_
        refine e_aload_n (pc := 148) C dX10_readClause_148 0 rfl rfl ?_
        refine e_aload_n (pc := 149) C dX10_readClause_149 1 rfl rfl ?_
        obtain ⟨t34, hf⟩ := ck_e hf
        obtain ⟨h35, y36, hf⟩ := ob_e hf
        refine e_callVv (pc := 150) (st := []) 10 C (ct_X10_readTunnel y36) dX10_readClause_150 (by decide) t34 g760 g762 g12 g148 g763 hd_X10_readTunnel rfl ⟨Nat.le_of_ble_eq_true rfl, Nat.le_of_ble_eq_true rfl⟩ ⟨Nat.le_of_ble_eq_true rfl, Nat.le_of_ble_eq_true rfl⟩ rfl (Nat.le_of_ble_eq_true rfl) ?_
        refine e_goto (pc := 153) (tgt := 161) C dX10_readClause_153 (by decide) ?_
        obtain rfl := so_e hf
        exact e_vret (pc := 161) C hr dX10_readClause_161 (Nat.le_of_ble_eq_true rfl) (Nat.le_of_ble_eq_true rfl)
      refine e_tabOut (pc := 69) (tgt := 156) C dX10_readClause_69 (by have g0 := i_ne 300 (by decide) c13; have g1 := i_ne 301 (by decide) c17; have g2 := i_ne 302 (by decide) c21; have g3 := i_ne 303 (by decide) c25; have g4 := i_ne 304 (by decide) c29; have g5 := i_ne 305 (by decide) c33; omega) (by decide) ?_
      refine e_aload_n (pc := 156) C dX10_readClause_156 0 rfl rfl ?_
      refine e_aload_n (pc := 157) C dX10_readClause_157 1 rfl rfl ?_
      obtain ⟨t37, hf⟩ := ck_e hf
      obtain ⟨h38, y39, hf⟩ := ob_e hf
      refine e_callVv (pc := 158) (st := []) 10 C (ct_X10_readCold y39) dX10_readClause_158 (by decide) t37 g764 g766 g13 g148 g767 hd_X10_readCold rfl ⟨Nat.le_of_ble_eq_true rfl, Nat.le_of_ble_eq_true rfl⟩ ⟨Nat.le_of_ble_eq_true rfl, Nat.le_of_ble_eq_true rfl⟩ rfl (Nat.le_of_ble_eq_true rfl) ?_
      obtain rfl := so_e hf
      exact e_vret (pc := 161) C hr dX10_readClause_161 (Nat.le_of_ble_eq_true rfl) (Nat.le_of_ble_eq_true rfl)
    · refine e_if_eq (pc := 57) (tgt := 61) C dX10_readClause_57 (by decide) (fun q => absurd q c8) (fun _ => ?_)
      obtain rfl := so_e hf
      exact e_vret (pc := 60) C hr dX10_readClause_60 (Nat.le_of_ble_eq_true rfl) (Nat.le_of_ble_eq_true rfl)
  rcases it_e hf with ⟨c40, hf⟩ | ⟨c40, hf⟩
  · refine e_icmp_ge (pc := 12) (tgt := 26) C dX10_readClause_12 (by decide) (fun _ => ?_) (fun q => absurd c40 q)
    refine e_iload_n (pc := 26) C dX10_readClause_26 3 rfl rfl ?_
    refine e_bipush (v := (40 : Int32)) (pc := 27) C dX10_readClause_27 (by decide) ?_
    obtain ⟨j_42, ej_42, hf⟩ := nn_e hf
    have W_42 : ∀ (h_42 : AH), j_42 h_42 = some y → EE G p l e ({ frames := 3, cells := 0, slots := 0, locals := 67 } : Room) s m args below meth c (none, y) 0 0 42 [(0, .ref v0), (1, .ref v1), (3, .int x4)] [] h_42 0 0 := by
      intro h_42 hf
      rw [ej_42] at hf
      refine e_aload_n (pc := 42) C dX10_readClause_42 0 rfl rfl ?_
      obtain ⟨t41, hf⟩ := ck_e hf
      refine e_getr (pc := 43) 10 0 C dX10_readClause_43 (by decide) (by decide) g227 rfl t41 ?_
      obtain ⟨b42, eb42, hf⟩ := ob_e hf
      refine e_rf eb42 ?_
      refine e_iconst (v := (4 : Int32)) (pc := 46) C dX10_readClause_46 (by decide) ?_
      obtain ⟨t43, hf⟩ := ck_e hf
      obtain ⟨h44, y45, hf⟩ := ob_e hf
      refine e_callVv (pc := 47) (st := []) 8 C (ct_X8_fail y45) dX10_readClause_47 (by decide) t43 g722 g723 g724 g147 g725 hd_X8_fail rfl ⟨Nat.le_of_ble_eq_true rfl, Nat.le_of_ble_eq_true rfl⟩ ⟨Nat.le_of_ble_eq_true rfl, Nat.le_of_ble_eq_true rfl⟩ rfl (Nat.le_of_ble_eq_true rfl) ?_
      exact W_50 h44 hf
    rcases it_e hf with ⟨c46, hf⟩ | ⟨c46, hf⟩
    · refine e_icmp_eq (pc := 29) (tgt := 42) C dX10_readClause_29 (by decide) (fun _ => ?_) (fun q => absurd c46 q)
      refine e_lv (lv2 := [(0, .ref v0), (1, .ref v1), (3, .int x4)]) [1, 2, 0] rfl ?_
      exact W_42 h hf
    · refine e_icmp_eq (pc := 29) (tgt := 42) C dX10_readClause_29 (by decide) (fun q => absurd q c46) (fun _ => ?_)
      refine e_aload_n (pc := 32) C dX10_readClause_32 1 rfl rfl ?_
      refine e_aload_n (pc := 33) C dX10_readClause_33 2 rfl rfl ?_
      refine e_iload_n (pc := 34) C dX10_readClause_34 0 rfl rfl ?_
      refine e_iload_n (pc := 35) C dX10_readClause_35 3 rfl rfl ?_
      obtain ⟨r49, h47, y48, hf⟩ := cb_e hf
      refine e_callVi (pc := 36) (st := []) 10 C (ct_X10_isOutOfPlace y48) dX10_readClause_36 (by decide) t1 g726 g728 g6 g148 g729 hd_X10_isOutOfPlace rfl ⟨Nat.le_of_ble_eq_true rfl, Nat.le_of_ble_eq_true rfl⟩ ⟨Nat.le_of_ble_eq_true rfl, Nat.le_of_ble_eq_true rfl⟩ rfl (Nat.le_of_ble_eq_true rfl) ?_
      rcases it_e hf with ⟨c50, hf⟩ | ⟨c50, hf⟩
      · refine e_if_eq (pc := 39) (tgt := 50) C dX10_readClause_39 (by decide) (fun _ => ?_) (fun q => absurd c50 q)
        refine e_lv (lv2 := [(0, .ref v0), (1, .ref v1), (3, .int x4)]) [1, 2, 0] rfl ?_
        exact W_50 h47 hf
      · refine e_if_eq (pc := 39) (tgt := 50) C dX10_readClause_39 (by decide) (fun q => absurd q c50) (fun _ => ?_)
        refine e_lv (lv2 := [(0, .ref v0), (1, .ref v1), (3, .int x4)]) [1, 2, 0] rfl ?_
        exact W_42 h47 hf
  · refine e_icmp_ge (pc := 12) (tgt := 26) C dX10_readClause_12 (by decide) (fun q => absurd q c40) (fun _ => ?_)
    refine e_aload_n (pc := 15) C dX10_readClause_15 1 rfl rfl ?_
    refine e_getr (pc := 16) 10 0 C dX10_readClause_16 (by decide) (by decide) g227 rfl t1 ?_
    obtain ⟨b51, eb51, hf⟩ := ob_e hf
    refine e_rf eb51 ?_
    refine e_iconst (v := (0 : Int32)) (pc := 19) C dX10_readClause_19 (by decide) ?_
    obtain ⟨t52, hf⟩ := ck_e hf
    obtain ⟨h53, y54, hf⟩ := ob_e hf
    refine e_callVv (pc := 20) (st := []) 8 C (ct_X8_fail y54) dX10_readClause_20 (by decide) t52 g722 g723 g724 g147 g725 hd_X8_fail rfl ⟨Nat.le_of_ble_eq_true rfl, Nat.le_of_ble_eq_true rfl⟩ ⟨Nat.le_of_ble_eq_true rfl, Nat.le_of_ble_eq_true rfl⟩ rfl (Nat.le_of_ble_eq_true rfl) ?_
    refine e_goto (pc := 23) (tgt := 50) C dX10_readClause_23 (by decide) ?_
    refine e_lv (lv2 := [(0, .ref v0), (1, .ref v1), (3, .int x4)]) [1, 2, 0] rfl ?_
    exact W_50 h53 hf
theorem dX10_readTrain_0 : decode cX10_readTrain 0 = .ok (.new 19, 3) := by decide +kernel
theorem dX10_readTrain_3 : decode cX10_readTrain 3 = .ok (.dup, 1) := by decide +kernel
theorem dX10_readTrain_4 : decode cX10_readTrain 4 = .ok (.invokespecial 21, 3) := by decide +kernel
theorem dX10_readTrain_7 : decode cX10_readTrain 7 = .ok (.astore_n 1, 1) := by decide +kernel
theorem dX10_readTrain_8 : decode cX10_readTrain 8 = .ok (.aload_n 0, 1) := by decide +kernel
theorem dX10_readTrain_9 : decode cX10_readTrain 9 = .ok (.iconst 0, 1) := by decide +kernel
theorem dX10_readTrain_10 : decode cX10_readTrain 10 = .ok (.putfield 9, 3) := by decide +kernel
theorem dX10_readTrain_13 : decode cX10_readTrain 13 = .ok (.aload_n 0, 1) := by decide +kernel
theorem dX10_readTrain_14 : decode cX10_readTrain 14 = .ok (.getfield 15, 3) := by decide +kernel
theorem dX10_readTrain_17 : decode cX10_readTrain 17 = .ok (.ldc 22, 2) := by decide +kernel
theorem dX10_readTrain_19 : decode cX10_readTrain 19 = .ok (.invokevirtual 24, 3) := by decide +kernel
theorem dX10_readTrain_22 : decode cX10_readTrain 22 = .ok (.aload_n 0, 1) := by decide +kernel
theorem dX10_readTrain_23 : decode cX10_readTrain 23 = .ok (.aload_n 1, 1) := by decide +kernel
theorem dX10_readTrain_24 : decode cX10_readTrain 24 = .ok (.iconst 0, 1) := by decide +kernel
theorem dX10_readTrain_25 : decode cX10_readTrain 25 = .ok (.invokevirtual 30, 3) := by decide +kernel
theorem dX10_readTrain_28 : decode cX10_readTrain 28 = .ok (.iconst 1, 1) := by decide +kernel
theorem dX10_readTrain_29 : decode cX10_readTrain 29 = .ok (.istore_n 2, 1) := by decide +kernel
theorem dX10_readTrain_30 : decode cX10_readTrain 30 = .ok (.iload_n 2, 1) := by decide +kernel
theorem dX10_readTrain_31 : decode cX10_readTrain 31 = .ok (.bipush 40, 2) := by decide +kernel
theorem dX10_readTrain_33 : decode cX10_readTrain 33 = .ok (.if_icmp .gt 47, 3) := by decide +kernel
theorem dX10_readTrain_36 : decode cX10_readTrain 36 = .ok (.aload_n 0, 1) := by decide +kernel
theorem dX10_readTrain_37 : decode cX10_readTrain 37 = .ok (.getfield 15, 3) := by decide +kernel
theorem dX10_readTrain_40 : decode cX10_readTrain 40 = .ok (.getfield 34, 3) := by decide +kernel
theorem dX10_readTrain_43 : decode cX10_readTrain 43 = .ok (.ifCond .ne 37, 3) := by decide +kernel
theorem dX10_readTrain_46 : decode cX10_readTrain 46 = .ok (.aload_n 0, 1) := by decide +kernel
theorem dX10_readTrain_47 : decode cX10_readTrain 47 = .ok (.getfield 15, 3) := by decide +kernel
theorem dX10_readTrain_50 : decode cX10_readTrain 50 = .ok (.getfield 38, 3) := by decide +kernel
theorem dX10_readTrain_53 : decode cX10_readTrain 53 = .ok (.sipush 257, 3) := by decide +kernel
theorem dX10_readTrain_56 : decode cX10_readTrain 56 = .ok (.if_icmp .eq 24, 3) := by decide +kernel
theorem dX10_readTrain_59 : decode cX10_readTrain 59 = .ok (.aload_n 0, 1) := by decide +kernel
theorem dX10_readTrain_60 : decode cX10_readTrain 60 = .ok (.getfield 15, 3) := by decide +kernel
theorem dX10_readTrain_63 : decode cX10_readTrain 63 = .ok (.bipush 59, 2) := by decide +kernel
theorem dX10_readTrain_65 : decode cX10_readTrain 65 = .ok (.invokevirtual 41, 3) := by decide +kernel
theorem dX10_readTrain_68 : decode cX10_readTrain 68 = .ok (.aload_n 0, 1) := by decide +kernel
theorem dX10_readTrain_69 : decode cX10_readTrain 69 = .ok (.aload_n 1, 1) := by decide +kernel
theorem dX10_readTrain_70 : decode cX10_readTrain 70 = .ok (.iload_n 2, 1) := by decide +kernel
theorem dX10_readTrain_71 : decode cX10_readTrain 71 = .ok (.invokevirtual 30, 3) := by decide +kernel
theorem dX10_readTrain_74 : decode cX10_readTrain 74 = .ok (.iinc 2 1, 3) := by decide +kernel
theorem dX10_readTrain_77 : decode cX10_readTrain 77 = .ok (.goto (-47), 3) := by decide +kernel
theorem dX10_readTrain_80 : decode cX10_readTrain 80 = .ok (.aload_n 1, 1) := by decide +kernel
theorem dX10_readTrain_81 : decode cX10_readTrain 81 = .ok (.iconst 1, 1) := by decide +kernel
theorem dX10_readTrain_82 : decode cX10_readTrain 82 = .ok (.putfield 45, 3) := by decide +kernel
theorem dX10_readTrain_85 : decode cX10_readTrain 85 = .ok (.aload_n 0, 1) := by decide +kernel
theorem dX10_readTrain_86 : decode cX10_readTrain 86 = .ok (.getfield 15, 3) := by decide +kernel
theorem dX10_readTrain_89 : decode cX10_readTrain 89 = .ok (.getfield 34, 3) := by decide +kernel
theorem dX10_readTrain_92 : decode cX10_readTrain 92 = .ok (.ifCond .ne 7, 3) := by decide +kernel
theorem dX10_readTrain_95 : decode cX10_readTrain 95 = .ok (.aload_n 1, 1) := by decide +kernel
theorem dX10_readTrain_96 : decode cX10_readTrain 96 = .ok (.goto 4, 3) := by decide +kernel
theorem dX10_readTrain_99 : decode cX10_readTrain 99 = .ok (.aconst_null, 1) := by decide +kernel
theorem dX10_readTrain_100 : decode cX10_readTrain 100 = .ok (.areturn, 1) := by decide +kernel
def F_X10_readTrain_30 (G : GG) (v0 : Nat) (v1 : Nat) (K_80 : AH → Option (Option Nat × AH)) (self_30 : Int32 → AH → Option (Option Nat × AH)) (v2 : Int32) (h : AH) : Option (Option Nat × AH) :=
if (40 : Int32) < v2 then (K_80 h) else
ck (m_t h v0 = .inl 10) <|
ob (m_r h v0 0) fun b16 =>
ck (m_t h b16 = .inl 8) <|
if (m_i h b16 9) = 0 then (ob (m_r h v0 0) fun b19 =>
ck (m_t h b19 = .inl 8) <|
if (m_i h b19 7) = (257 : Int32) then (K_80 h) else
ob (m_r h v0 0) fun b22 =>
ck (m_t h b22 = .inl 8) <|
ob (f_X8_takeByte G b22 (59 : Int32) h) fun h24 =>
ck (m_t h24 v0 = .inl 10) <|
ob (f_X10_readClause G v0 v1 v2 h24) fun h27 =>
nn (v2 + (1 : Int32)) fun x29 =>
self_30 x29 h27) else
K_80 h
def f_X10_readTrain (G : GG) (v0 : Nat) (h : AH) : Option (Option Nat × AH) :=
nn (m_n h) fun x1 =>
nn (m_new h (.inl 9)) fun h2 =>
ob (f_X9_init G x1 h2) fun h3 =>
ck (m_t h3 v0 = .inl 10) <|
nn (m_si h3 v0 1 (0 : Int32)) fun h6 =>
ob (m_r h6 v0 0) fun b7 =>
ck (m_t h6 b7 = .inl 8) <|
ob (f_X8_open G b7 ((G.2.2.2.1 0)) h6) fun h9 =>
ck (m_t h9 v0 = .inl 10) <|
ob (f_X10_readClause G v0 x1 (0 : Int32) h9) fun h12 =>
lq1 (F_X10_readTrain_30 G v0 x1 (fun (h_80 : AH) => (ck (m_t h_80 x1 = .inl 9) <|
nn (m_si h_80 x1 0 (1 : Int32)) fun h31 =>
ck (m_t h31 v0 = .inl 10) <|
ob (m_r h31 v0 0) fun b33 =>
ck (m_t h31 b33 = .inl 8) <|
if (m_i h31 b33 9) = 0 then (some (some x1, h31)) else
some (none, h31)))) bN (1 : Int32) h12
set_option maxHeartbeats 4000000 in
set_option maxRecDepth 100000 in
theorem el_X10_readTrain_30 {G : GG} {p : Program} {l : Launch} {e : Env} {s : State} {m : MethodId} {args : Array Value} {below : List Frame} {meth : Method} {c : Code} {y : Option Nat × AH} (C : Cx G cX10_readTrain RX10 p s m args meth c) (hm : c.maxLocals = 3) (hr : meth.sig.returnType = (some (.object "StrapWindow$Train"))) (hin : meth.name = yX10_readTrain.name) {v0 : Nat} {v1 : Nat} {K_80 : AH → Option (Option Nat × AH)} (hK_80 : ∀ (h : AH), K_80 h = some y → EE G p l e ({ frames := 8, cells := 15, slots := 103, locals := 181 } : Room) s m args below meth c (some (va_rf y.1), y.2) 15 103 80 [(0, .ref v0), (1, .ref v1)] [] h 15 103) :
    ∀ (n : Nat) (v2 : Int32) (h : AH), lq1 (F_X10_readTrain_30 G v0 v1 K_80) n v2 h = some y → EE G p l e ({ frames := 8, cells := 15, slots := 103, locals := 181 } : Room) s m args below meth c (some (va_rf y.1), y.2) 15 103 30 [(0, .ref v0), (1, .ref v1), (2, .int v2)] [] h 15 103 := by
  intro n
  induction n with
  | zero => intro v2 h hf; exact (no_e hf).elim
  | succ n ih_30 =>
    intro v2 h hf
    have hf : F_X10_readTrain_30 G v0 v1 K_80 (lq1 (F_X10_readTrain_30 G v0 v1 K_80) n) v2 h = some y := hf
    generalize lq1 (F_X10_readTrain_30 G v0 v1 K_80) n = self_30 at hf ih_30
    unfold F_X10_readTrain_30 at hf
    refine e_iload_n (pc := 30) C dX10_readTrain_30 2 rfl rfl ?_
    refine e_bipush (v := (40 : Int32)) (pc := 31) C dX10_readTrain_31 (by decide) ?_
    rcases it_e hf with ⟨c14, hf⟩ | ⟨c14, hf⟩
    · refine e_icmp_gt (pc := 33) (tgt := 80) C dX10_readTrain_33 (by decide) (fun _ => ?_) (fun q => absurd c14 q)
      refine e_lv (lv2 := [(0, .ref v0), (1, .ref v1)]) [0, 1] rfl ?_
      exact hK_80 h hf
    · refine e_icmp_gt (pc := 33) (tgt := 80) C dX10_readTrain_33 (by decide) (fun q => absurd q c14) (fun _ => ?_)
      refine e_aload_n (pc := 36) C dX10_readTrain_36 0 rfl rfl ?_
      obtain ⟨t15, hf⟩ := ck_e hf
      refine e_getr (pc := 37) 10 0 C dX10_readTrain_37 (by decide) (by decide) g227 rfl t15 ?_
      obtain ⟨b16, eb16, hf⟩ := ob_e hf
      refine e_rf eb16 ?_
      obtain ⟨t17, hf⟩ := ck_e hf
      refine e_getiN (pc := 40) 8 9 C dX10_readTrain_40 (by decide) (by decide) g196 rfl t17 ?_
      rcases it_e hf with ⟨c18, hf⟩ | ⟨c18, hf⟩
      · refine e_if_ne (pc := 43) (tgt := 80) C dX10_readTrain_43 (by decide) (fun q => absurd c18 q) (fun _ => ?_)
        refine e_aload_n (pc := 46) C dX10_readTrain_46 0 rfl rfl ?_
        refine e_getr (pc := 47) 10 0 C dX10_readTrain_47 (by decide) (by decide) g227 rfl t15 ?_
        obtain ⟨b19, eb19, hf⟩ := ob_e hf
        refine e_rf eb19 ?_
        obtain ⟨t20, hf⟩ := ck_e hf
        refine e_getiN (pc := 50) 8 7 C dX10_readTrain_50 (by decide) (by decide) g190 rfl t20 ?_
        refine e_sipush (v := (257 : Int32)) (pc := 53) C dX10_readTrain_53 (by decide) ?_
        rcases it_e hf with ⟨c21, hf⟩ | ⟨c21, hf⟩
        · refine e_icmp_eq (pc := 56) (tgt := 80) C dX10_readTrain_56 (by decide) (fun _ => ?_) (fun q => absurd c21 q)
          refine e_lv (lv2 := [(0, .ref v0), (1, .ref v1)]) [0, 1] rfl ?_
          exact hK_80 h hf
        · refine e_icmp_eq (pc := 56) (tgt := 80) C dX10_readTrain_56 (by decide) (fun q => absurd q c21) (fun _ => ?_)
          refine e_aload_n (pc := 59) C dX10_readTrain_59 0 rfl rfl ?_
          refine e_getr (pc := 60) 10 0 C dX10_readTrain_60 (by decide) (by decide) g227 rfl t15 ?_
          obtain ⟨b22, eb22, hf⟩ := ob_e hf
          refine e_rf eb22 ?_
          refine e_bipush (v := (59 : Int32)) (pc := 63) C dX10_readTrain_63 (by decide) ?_
          obtain ⟨t23, hf⟩ := ck_e hf
          obtain ⟨h24, y25, hf⟩ := ob_e hf
          refine e_callVv (pc := 65) (st := []) 8 C (ct_X8_takeByte y25) dX10_readTrain_65 (by decide) t23 g768 g769 g770 g147 g771 hd_X8_takeByte rfl ⟨Nat.le_of_ble_eq_true rfl, Nat.le_of_ble_eq_true rfl⟩ ⟨Nat.le_of_ble_eq_true rfl, Nat.le_of_ble_eq_true rfl⟩ rfl (Nat.le_of_ble_eq_true rfl) ?_
          refine e_aload_n (pc := 68) C dX10_readTrain_68 0 rfl rfl ?_
          refine e_aload_n (pc := 69) C dX10_readTrain_69 1 rfl rfl ?_
          refine e_iload_n (pc := 70) C dX10_readTrain_70 2 rfl rfl ?_
          obtain ⟨t26, hf⟩ := ck_e hf
          obtain ⟨h27, y28, hf⟩ := ob_e hf
          refine e_callVv (pc := 71) (st := []) 10 C (ct_X10_readClause y28) dX10_readTrain_71 (by decide) t26 g718 g720 g5 g148 g721 hd_X10_readClause rfl ⟨Nat.le_of_ble_eq_true rfl, Nat.le_of_ble_eq_true rfl⟩ ⟨Nat.le_of_ble_eq_true rfl, Nat.le_of_ble_eq_true rfl⟩ rfl (Nat.le_of_ble_eq_true rfl) ?_
          obtain ⟨x29, ex29, hf⟩ := nn_e hf
          refine e_iinc (pc := 74) (v := x29) (lv2 := [(2, .int x29), (0, .ref v0), (1, .ref v1)]) C hm dX10_readTrain_74 2 rfl (by rw [ex29]; rfl) (by decide) rfl ?_
          refine e_goto (pc := 77) (tgt := 30) C dX10_readTrain_77 (by decide) ?_
          refine e_lv (lv2 := [(0, .ref v0), (1, .ref v1), (2, .int x29)]) [1, 2, 0] rfl ?_
          exact ih_30 x29 h27 hf
      · refine e_if_ne (pc := 43) (tgt := 80) C dX10_readTrain_43 (by decide) (fun _ => ?_) (fun q => absurd q c18)
        refine e_lv (lv2 := [(0, .ref v0), (1, .ref v1)]) [0, 1] rfl ?_
        exact hK_80 h hf
set_option maxHeartbeats 4000000 in
set_option maxRecDepth 100000 in
theorem ct_X10_readTrain {G : GG} {l : Launch} {v0 : Nat} {h : AH} {y : Option Nat × AH} (hf : f_X10_readTrain G v0 h = some y) : Ct G l yX10_readTrain cX10_readTrain 3 (some (.object "StrapWindow$Train")) 8 181 15 103 [.ref v0] h (some (va_rf y.1), y.2) := by
  refine ct_of (by decide) (Nat.le_of_ble_eq_true rfl) ?_
  intro p e s m args below meth c C hm hr hin
  have C : Cx G cX10_readTrain RX10 p s m args meth c := C
  refine e_lv (lv2 := [(0, .ref v0)]) [0] rfl ?_
  unfold f_X10_readTrain at hf
  refine e_new (pc := 0) (ci := 9) C dX10_readTrain_0 (by decide) g633 g260 g152 (Nat.le_of_ble_eq_true rfl) (Nat.le_of_ble_eq_true rfl) ?_
  obtain ⟨x1, ex1, hf⟩ := nn_e hf
  refine e_topr ex1 ?_
  obtain ⟨h2, eh2, hf⟩ := nn_e hf
  refine e_hp eh2 ?_
  have tx1 : m_t h2 x1 = .inl 9 := by rw [eh2, ex1]; simp [m_t, m_new, m_n, va_up]
  refine e_dup (pc := 3) C dX10_readTrain_3 rfl ?_
  obtain ⟨h3, y4, hf⟩ := ob_e hf
  refine e_callIv (pc := 4) (st := [.ref x1]) C (ct_X9_init y4) dX10_readTrain_4 g634 g262 g152 g263 rfl hd_X9_init rfl ⟨Nat.le_of_ble_eq_true rfl, Nat.le_of_ble_eq_true rfl⟩ ⟨Nat.le_of_ble_eq_true rfl, Nat.le_of_ble_eq_true rfl⟩ rfl (Nat.le_of_ble_eq_true rfl) ?_
  refine e_astore_n (pc := 7) (lv2 := [(1, .ref x1), (0, .ref v0)]) C hm dX10_readTrain_7 rfl (by decide) rfl ?_
  refine e_aload_n (pc := 8) C dX10_readTrain_8 1 rfl rfl ?_
  refine e_iconst (v := (0 : Int32)) (pc := 9) C dX10_readTrain_9 (by decide) ?_
  obtain ⟨t5, hf⟩ := ck_e hf
  refine e_puti (pc := 10) 10 1 C dX10_readTrain_10 (by decide) (by decide) g228 rfl rfl rfl (nz_ok (by decide)) t5 ?_
  obtain ⟨h6, eh6, hf⟩ := nn_e hf
  refine e_hp eh6 ?_
  have uh6 : m_t h6 = m_t h3 := by rw [eh6]; exact rfl
  refine e_aload_n (pc := 13) C dX10_readTrain_13 1 rfl rfl ?_
  refine e_getr (pc := 14) 10 0 C dX10_readTrain_14 (by decide) (by decide) g227 rfl (e_mt uh6 t5) ?_
  obtain ⟨b7, eb7, hf⟩ := ob_e hf
  refine e_rf eb7 ?_
  refine e_ldcS (pc := 17) C dX10_readTrain_17 0 rfl ?_
  obtain ⟨t8, hf⟩ := ck_e hf
  obtain ⟨h9, y10, hf⟩ := ob_e hf
  refine e_callVv (pc := 19) (st := []) 8 C (ct_X8_open y10) dX10_readTrain_19 (by decide) t8 g636 g637 g638 g147 g639 hd_X8_open rfl ⟨Nat.le_of_ble_eq_true rfl, Nat.le_of_ble_eq_true rfl⟩ ⟨Nat.le_of_ble_eq_true rfl, Nat.le_of_ble_eq_true rfl⟩ rfl (Nat.le_of_ble_eq_true rfl) ?_
  refine e_aload_n (pc := 22) C dX10_readTrain_22 1 rfl rfl ?_
  refine e_aload_n (pc := 23) C dX10_readTrain_23 0 rfl rfl ?_
  refine e_iconst (v := (0 : Int32)) (pc := 24) C dX10_readTrain_24 (by decide) ?_
  obtain ⟨t11, hf⟩ := ck_e hf
  obtain ⟨h12, y13, hf⟩ := ob_e hf
  refine e_callVv (pc := 25) (st := []) 10 C (ct_X10_readClause y13) dX10_readTrain_25 (by decide) t11 g718 g720 g5 g148 g721 hd_X10_readClause rfl ⟨Nat.le_of_ble_eq_true rfl, Nat.le_of_ble_eq_true rfl⟩ ⟨Nat.le_of_ble_eq_true rfl, Nat.le_of_ble_eq_true rfl⟩ rfl (Nat.le_of_ble_eq_true rfl) ?_
  refine e_iconst (v := (1 : Int32)) (pc := 28) C dX10_readTrain_28 (by decide) ?_
  refine e_istore_n (pc := 29) (lv2 := [(2, .int (1 : Int32)), (1, .ref x1), (0, .ref v0)]) C hm dX10_readTrain_29 rfl (by decide) rfl ?_
  refine e_lv (lv2 := [(0, .ref v0), (1, .ref x1), (2, .int (1 : Int32))]) [2, 1, 0] rfl ?_
  refine el_X10_readTrain_30 C hm hr hin (fun h_80 hf => ?_) bN (1 : Int32) h12 hf
  refine e_aload_n (pc := 80) C dX10_readTrain_80 1 rfl rfl ?_
  refine e_iconst (v := (1 : Int32)) (pc := 81) C dX10_readTrain_81 (by decide) ?_
  obtain ⟨t30, hf⟩ := ck_e hf
  refine e_putiN (pc := 82) 9 0 C dX10_readTrain_82 (by decide) (by decide) g313 rfl rfl rfl (nz_ok (by decide)) t30 ?_
  obtain ⟨h31, eh31, hf⟩ := nn_e hf
  refine e_hp eh31 ?_
  have uh31 : m_t h31 = m_t h_80 := by rw [eh31]; exact rfl
  refine e_aload_n (pc := 85) C dX10_readTrain_85 0 rfl rfl ?_
  obtain ⟨t32, hf⟩ := ck_e hf
  refine e_getr (pc := 86) 10 0 C dX10_readTrain_86 (by decide) (by decide) g227 rfl t32 ?_
  obtain ⟨b33, eb33, hf⟩ := ob_e hf
  refine e_rf eb33 ?_
  obtain ⟨t34, hf⟩ := ck_e hf
  refine e_getiN (pc := 89) 8 9 C dX10_readTrain_89 (by decide) (by decide) g196 rfl t34 ?_
  rcases it_e hf with ⟨c35, hf⟩ | ⟨c35, hf⟩
  · refine e_if_ne (pc := 92) (tgt := 99) C dX10_readTrain_92 (by decide) (fun q => absurd c35 q) (fun _ => ?_)
    refine e_aload_n (pc := 95) C dX10_readTrain_95 1 rfl rfl ?_
    refine e_goto (pc := 96) (tgt := 100) C dX10_readTrain_96 (by decide) ?_
    obtain rfl := so_e hf
    exact e_aret (pc := 100) (r := some x1) C hr (by simp) dX10_readTrain_100 (Nat.le_of_ble_eq_true rfl) (Nat.le_of_ble_eq_true rfl)
  · refine e_if_ne (pc := 92) (tgt := 99) C dX10_readTrain_92 (by decide) (fun _ => ?_) (fun q => absurd q c35)
    refine e_null (pc := 99) C dX10_readTrain_99 ?_
    obtain rfl := so_e hf
    exact e_aret (pc := 100) (r := none) C hr (by simp) dX10_readTrain_100 (Nat.le_of_ble_eq_true rfl) (Nat.le_of_ble_eq_true rfl)
theorem dX3_init_0 : decode cX3_init 0 = .ok (.aload_n 0, 1) := by decide +kernel
theorem dX3_init_1 : decode cX3_init 1 = .ok (.invokespecial 3, 3) := by decide +kernel
theorem dX3_init_4 : decode cX3_init 4 = .ok (.aload_n 0, 1) := by decide +kernel
theorem dX3_init_5 : decode cX3_init 5 = .ok (.sipush 400, 3) := by decide +kernel
theorem dX3_init_8 : decode cX3_init 8 = .ok (.newarray .int, 2) := by decide +kernel
theorem dX3_init_10 : decode cX3_init 10 = .ok (.putfield 9, 3) := by decide +kernel
theorem dX3_init_13 : decode cX3_init 13 = .ok (.aload_n 0, 1) := by decide +kernel
theorem dX3_init_14 : decode cX3_init 14 = .ok (.iconst 0, 1) := by decide +kernel
theorem dX3_init_15 : decode cX3_init 15 = .ok (.putfield 15, 3) := by decide +kernel
theorem dX3_init_18 : decode cX3_init 18 = .ok (.aload_n 0, 1) := by decide +kernel
theorem dX3_init_19 : decode cX3_init 19 = .ok (.iconst 0, 1) := by decide +kernel
theorem dX3_init_20 : decode cX3_init 20 = .ok (.putfield 19, 3) := by decide +kernel
theorem dX3_init_23 : decode cX3_init 23 = .ok (.aload_n 0, 1) := by decide +kernel
theorem dX3_init_24 : decode cX3_init 24 = .ok (.aload_n 1, 1) := by decide +kernel
theorem dX3_init_25 : decode cX3_init 25 = .ok (.putfield 22, 3) := by decide +kernel
theorem dX3_init_28 : decode cX3_init 28 = .ok (.return_, 1) := by decide +kernel
def f_X3_init (G : GG) (v0 : Nat) (v1 : Nat) (h : AH) : Option (AH) :=
nn (m_n h) fun x1 =>
nn (m_new h (.inr (.int, 400))) fun h2 =>
ck (m_t h2 v0 = .inl 3) <|
nn (m_sr h2 v0 1 (some x1)) fun h4 =>
nn (m_si h4 v0 2 (0 : Int32)) fun h5 =>
nn (m_si h5 v0 3 (0 : Int32)) fun h6 =>
nn (m_sr h6 v0 0 (some v1)) fun h7 =>
some h7
set_option maxHeartbeats 4000000 in
set_option maxRecDepth 100000 in
theorem ct_X3_init {G : GG} {l : Launch} {v0 : Nat} {v1 : Nat} {h : AH} {y : AH} (hf : f_X3_init G v0 v1 h = some y) : Ct G l yX3_init cX3_init 2 none 1 24 1 400 [.ref v0, .ref v1] h (none, y) := by
  refine ct_of (by decide) (Nat.le_of_ble_eq_true rfl) ?_
  intro p e s m args below meth c C hm hr hin
  have C : Cx G cX3_init RX3 p s m args meth c := C
  refine e_lv (lv2 := [(0, .ref v0), (1, .ref v1)]) [0, 1] rfl ?_
  unfold f_X3_init at hf
  refine e_aload_n (pc := 0) C dX3_init_0 0 rfl rfl ?_
  refine e_objInit (pc := 1) C dX3_init_1 g239 g173 g174 (Nat.le_of_ble_eq_true rfl) (Nat.le_of_ble_eq_true rfl) ?_
  refine e_aload_n (pc := 4) C dX3_init_4 0 rfl rfl ?_
  refine e_sipush (v := (400 : Int32)) (pc := 5) C dX3_init_5 (by decide) ?_
  refine e_newi (pc := 8) C dX3_init_8 g220 (by decide) (N := 400) (by decide) (by decide) (Nat.le_of_ble_eq_true rfl) (Nat.le_of_ble_eq_true rfl) ?_
  obtain ⟨x1, ex1, hf⟩ := nn_e hf
  refine e_topr ex1 ?_
  obtain ⟨h2, eh2, hf⟩ := nn_e hf
  refine e_hp eh2 ?_
  obtain ⟨t3, hf⟩ := ck_e hf
  refine e_putrF (pc := 10) (x := some x1) 3 1 C hin dX3_init_10 (by decide) (by decide) g241 rfl rfl rfl rfl rfl t3 ?_
  obtain ⟨h4, eh4, hf⟩ := nn_e hf
  refine e_hp eh4 ?_
  have uh4 : m_t h4 = m_t h2 := by rw [eh4]; exact rfl
  refine e_aload_n (pc := 13) C dX3_init_13 0 rfl rfl ?_
  refine e_iconst (v := (0 : Int32)) (pc := 14) C dX3_init_14 (by decide) ?_
  refine e_puti (pc := 15) 3 2 C dX3_init_15 (by decide) (by decide) g242 rfl rfl rfl rfl (e_mt uh4 t3) ?_
  obtain ⟨h5, eh5, hf⟩ := nn_e hf
  refine e_hp eh5 ?_
  have uh5 : m_t h5 = m_t h2 := by rw [eh5]; exact uh4
  refine e_aload_n (pc := 18) C dX3_init_18 0 rfl rfl ?_
  refine e_iconst (v := (0 : Int32)) (pc := 19) C dX3_init_19 (by decide) ?_
  refine e_puti (pc := 20) 3 3 C dX3_init_20 (by decide) (by decide) g243 rfl rfl rfl rfl (e_mt uh5 t3) ?_
  obtain ⟨h6, eh6, hf⟩ := nn_e hf
  refine e_hp eh6 ?_
  have uh6 : m_t h6 = m_t h2 := by rw [eh6]; exact uh5
  refine e_aload_n (pc := 23) C dX3_init_23 0 rfl rfl ?_
  refine e_aload_n (pc := 24) C dX3_init_24 1 rfl rfl ?_
  refine e_putrF (pc := 25) (x := some v1) 3 0 C hin dX3_init_25 (by decide) (by decide) g240 rfl rfl rfl rfl rfl (e_mt uh6 t3) ?_
  obtain ⟨h7, eh7, hf⟩ := nn_e hf
  refine e_hp eh7 ?_
  have uh7 : m_t h7 = m_t h2 := by rw [eh7]; exact uh6
  obtain rfl := so_e hf
  exact e_vret (pc := 28) C hr dX3_init_28 (Nat.le_of_ble_eq_true rfl) (Nat.le_of_ble_eq_true rfl)
theorem dX0_init_0 : decode cX0_init 0 = .ok (.aload_n 0, 1) := by decide +kernel
theorem dX0_init_1 : decode cX0_init 1 = .ok (.invokespecial 3, 3) := by decide +kernel
theorem dX0_init_4 : decode cX0_init 4 = .ok (.aload_n 0, 1) := by decide +kernel
theorem dX0_init_5 : decode cX0_init 5 = .ok (.aconst_null, 1) := by decide +kernel
theorem dX0_init_6 : decode cX0_init 6 = .ok (.putfield 9, 3) := by decide +kernel
theorem dX0_init_9 : decode cX0_init 9 = .ok (.aload_n 0, 1) := by decide +kernel
theorem dX0_init_10 : decode cX0_init 10 = .ok (.iconst 0, 1) := by decide +kernel
theorem dX0_init_11 : decode cX0_init 11 = .ok (.putfield 15, 3) := by decide +kernel
theorem dX0_init_14 : decode cX0_init 14 = .ok (.aload_n 0, 1) := by decide +kernel
theorem dX0_init_15 : decode cX0_init 15 = .ok (.iconst 0, 1) := by decide +kernel
theorem dX0_init_16 : decode cX0_init 16 = .ok (.putfield 19, 3) := by decide +kernel
theorem dX0_init_19 : decode cX0_init 19 = .ok (.aload_n 0, 1) := by decide +kernel
theorem dX0_init_20 : decode cX0_init 20 = .ok (.iconst 0, 1) := by decide +kernel
theorem dX0_init_21 : decode cX0_init 21 = .ok (.putfield 22, 3) := by decide +kernel
theorem dX0_init_24 : decode cX0_init 24 = .ok (.aload_n 0, 1) := by decide +kernel
theorem dX0_init_25 : decode cX0_init 25 = .ok (.iconst 0, 1) := by decide +kernel
theorem dX0_init_26 : decode cX0_init 26 = .ok (.putfield 25, 3) := by decide +kernel
theorem dX0_init_29 : decode cX0_init 29 = .ok (.aload_n 0, 1) := by decide +kernel
theorem dX0_init_30 : decode cX0_init 30 = .ok (.bipush 8, 2) := by decide +kernel
theorem dX0_init_32 : decode cX0_init 32 = .ok (.newarray .int, 2) := by decide +kernel
theorem dX0_init_34 : decode cX0_init 34 = .ok (.putfield 28, 3) := by decide +kernel
theorem dX0_init_37 : decode cX0_init 37 = .ok (.aload_n 0, 1) := by decide +kernel
theorem dX0_init_38 : decode cX0_init 38 = .ok (.bipush 8, 2) := by decide +kernel
theorem dX0_init_40 : decode cX0_init 40 = .ok (.newarray .int, 2) := by decide +kernel
theorem dX0_init_42 : decode cX0_init 42 = .ok (.putfield 32, 3) := by decide +kernel
theorem dX0_init_45 : decode cX0_init 45 = .ok (.aload_n 0, 1) := by decide +kernel
theorem dX0_init_46 : decode cX0_init 46 = .ok (.bipush 8, 2) := by decide +kernel
theorem dX0_init_48 : decode cX0_init 48 = .ok (.newarray .int, 2) := by decide +kernel
theorem dX0_init_50 : decode cX0_init 50 = .ok (.putfield 35, 3) := by decide +kernel
theorem dX0_init_53 : decode cX0_init 53 = .ok (.aload_n 0, 1) := by decide +kernel
theorem dX0_init_54 : decode cX0_init 54 = .ok (.bipush 8, 2) := by decide +kernel
theorem dX0_init_56 : decode cX0_init 56 = .ok (.newarray .int, 2) := by decide +kernel
theorem dX0_init_58 : decode cX0_init 58 = .ok (.putfield 38, 3) := by decide +kernel
theorem dX0_init_61 : decode cX0_init 61 = .ok (.aload_n 0, 1) := by decide +kernel
theorem dX0_init_62 : decode cX0_init 62 = .ok (.aload_n 1, 1) := by decide +kernel
theorem dX0_init_63 : decode cX0_init 63 = .ok (.putfield 41, 3) := by decide +kernel
theorem dX0_init_66 : decode cX0_init 66 = .ok (.return_, 1) := by decide +kernel
def f_X0_init (G : GG) (v0 : Nat) (v1 : Nat) (h : AH) : Option (AH) :=
ck (m_t h v0 = .inl 0) <|
nn (m_sr h v0 1 (none)) fun h2 =>
nn (m_si h2 v0 2 (0 : Int32)) fun h3 =>
nn (m_si h3 v0 3 (0 : Int32)) fun h4 =>
nn (m_si h4 v0 4 (0 : Int32)) fun h5 =>
nn (m_si h5 v0 5 (0 : Int32)) fun h6 =>
nn (m_n h6) fun x7 =>
nn (m_new h6 (.inr (.int, 8))) fun h8 =>
ck (m_t h8 v0 = .inl 0) <|
nn (m_sr h8 v0 6 (some x7)) fun h10 =>
nn (m_n h10) fun x11 =>
nn (m_new h10 (.inr (.int, 8))) fun h12 =>
ck (m_t h12 v0 = .inl 0) <|
nn (m_sr h12 v0 7 (some x11)) fun h14 =>
nn (m_n h14) fun x15 =>
nn (m_new h14 (.inr (.int, 8))) fun h16 =>
ck (m_t h16 v0 = .inl 0) <|
nn (m_sr h16 v0 8 (some x15)) fun h18 =>
nn (m_n h18) fun x19 =>
nn (m_new h18 (.inr (.int, 8))) fun h20 =>
ck (m_t h20 v0 = .inl 0) <|
nn (m_sr h20 v0 9 (some x19)) fun h22 =>
nn (m_sr h22 v0 0 (some v1)) fun h23 =>
some h23
set_option maxHeartbeats 4000000 in
set_option maxRecDepth 100000 in
theorem ct_X0_init {G : GG} {l : Launch} {v0 : Nat} {v1 : Nat} {h : AH} {y : AH} (hf : f_X0_init G v0 v1 h = some y) : Ct G l yX0_init cX0_init 2 none 1 24 4 32 [.ref v0, .ref v1] h (none, y) := by
  refine ct_of (by decide) (Nat.le_of_ble_eq_true rfl) ?_
  intro p e s m args below meth c C hm hr hin
  have C : Cx G cX0_init RX0 p s m args meth c := C
  refine e_lv (lv2 := [(0, .ref v0), (1, .ref v1)]) [0, 1] rfl ?_
  unfold f_X0_init at hf
  refine e_aload_n (pc := 0) C dX0_init_0 0 rfl rfl ?_
  refine e_objInit (pc := 1) C dX0_init_1 g392 g173 g174 (Nat.le_of_ble_eq_true rfl) (Nat.le_of_ble_eq_true rfl) ?_
  refine e_aload_n (pc := 4) C dX0_init_4 0 rfl rfl ?_
  refine e_null (pc := 5) C dX0_init_5 ?_
  obtain ⟨t1, hf⟩ := ck_e hf
  refine e_putr (pc := 6) (x := none) 0 1 C dX0_init_6 (by decide) (by decide) g400 rfl rfl rfl rfl t1 ?_
  obtain ⟨h2, eh2, hf⟩ := nn_e hf
  refine e_hp eh2 ?_
  have uh2 : m_t h2 = m_t h := by rw [eh2]; exact rfl
  refine e_aload_n (pc := 9) C dX0_init_9 0 rfl rfl ?_
  refine e_iconst (v := (0 : Int32)) (pc := 10) C dX0_init_10 (by decide) ?_
  refine e_puti (pc := 11) 0 2 C dX0_init_11 (by decide) (by decide) g402 rfl rfl rfl rfl (e_mt uh2 t1) ?_
  obtain ⟨h3, eh3, hf⟩ := nn_e hf
  refine e_hp eh3 ?_
  have uh3 : m_t h3 = m_t h := by rw [eh3]; exact uh2
  refine e_aload_n (pc := 14) C dX0_init_14 0 rfl rfl ?_
  refine e_iconst (v := (0 : Int32)) (pc := 15) C dX0_init_15 (by decide) ?_
  refine e_puti (pc := 16) 0 3 C dX0_init_16 (by decide) (by decide) g407 rfl rfl rfl rfl (e_mt uh3 t1) ?_
  obtain ⟨h4, eh4, hf⟩ := nn_e hf
  refine e_hp eh4 ?_
  have uh4 : m_t h4 = m_t h := by rw [eh4]; exact uh3
  refine e_aload_n (pc := 19) C dX0_init_19 0 rfl rfl ?_
  refine e_iconst (v := (0 : Int32)) (pc := 20) C dX0_init_20 (by decide) ?_
  refine e_puti (pc := 21) 0 4 C dX0_init_21 (by decide) (by decide) g412 rfl rfl rfl rfl (e_mt uh4 t1) ?_
  obtain ⟨h5, eh5, hf⟩ := nn_e hf
  refine e_hp eh5 ?_
  have uh5 : m_t h5 = m_t h := by rw [eh5]; exact uh4
  refine e_aload_n (pc := 24) C dX0_init_24 0 rfl rfl ?_
  refine e_iconst (v := (0 : Int32)) (pc := 25) C dX0_init_25 (by decide) ?_
  refine e_puti (pc := 26) 0 5 C dX0_init_26 (by decide) (by decide) g416 rfl rfl rfl rfl (e_mt uh5 t1) ?_
  obtain ⟨h6, eh6, hf⟩ := nn_e hf
  refine e_hp eh6 ?_
  have uh6 : m_t h6 = m_t h := by rw [eh6]; exact uh5
  refine e_aload_n (pc := 29) C dX0_init_29 0 rfl rfl ?_
  refine e_bipush (v := (8 : Int32)) (pc := 30) C dX0_init_30 (by decide) ?_
  refine e_newi (pc := 32) C dX0_init_32 g220 (by decide) (N := 8) (by decide) (by decide) (Nat.le_of_ble_eq_true rfl) (Nat.le_of_ble_eq_true rfl) ?_
  obtain ⟨x7, ex7, hf⟩ := nn_e hf
  refine e_topr ex7 ?_
  obtain ⟨h8, eh8, hf⟩ := nn_e hf
  refine e_hp eh8 ?_
  obtain ⟨t9, hf⟩ := ck_e hf
  refine e_putrF (pc := 34) (x := some x7) 0 6 C hin dX0_init_34 (by decide) (by decide) g421 rfl rfl rfl rfl rfl t9 ?_
  obtain ⟨h10, eh10, hf⟩ := nn_e hf
  refine e_hp eh10 ?_
  have uh10 : m_t h10 = m_t h8 := by rw [eh10]; exact rfl
  refine e_aload_n (pc := 37) C dX0_init_37 0 rfl rfl ?_
  refine e_bipush (v := (8 : Int32)) (pc := 38) C dX0_init_38 (by decide) ?_
  refine e_newi (pc := 40) C dX0_init_40 g220 (by decide) (N := 8) (by decide) (by decide) (Nat.le_of_ble_eq_true rfl) (Nat.le_of_ble_eq_true rfl) ?_
  obtain ⟨x11, ex11, hf⟩ := nn_e hf
  refine e_topr ex11 ?_
  obtain ⟨h12, eh12, hf⟩ := nn_e hf
  refine e_hp eh12 ?_
  obtain ⟨t13, hf⟩ := ck_e hf
  refine e_putrF (pc := 42) (x := some x11) 0 7 C hin dX0_init_42 (by decide) (by decide) g425 rfl rfl rfl rfl rfl t13 ?_
  obtain ⟨h14, eh14, hf⟩ := nn_e hf
  refine e_hp eh14 ?_
  have uh14 : m_t h14 = m_t h12 := by rw [eh14]; exact rfl
  refine e_aload_n (pc := 45) C dX0_init_45 0 rfl rfl ?_
  refine e_bipush (v := (8 : Int32)) (pc := 46) C dX0_init_46 (by decide) ?_
  refine e_newi (pc := 48) C dX0_init_48 g220 (by decide) (N := 8) (by decide) (by decide) (Nat.le_of_ble_eq_true rfl) (Nat.le_of_ble_eq_true rfl) ?_
  obtain ⟨x15, ex15, hf⟩ := nn_e hf
  refine e_topr ex15 ?_
  obtain ⟨h16, eh16, hf⟩ := nn_e hf
  refine e_hp eh16 ?_
  obtain ⟨t17, hf⟩ := ck_e hf
  refine e_putrF (pc := 50) (x := some x15) 0 8 C hin dX0_init_50 (by decide) (by decide) g428 rfl rfl rfl rfl rfl t17 ?_
  obtain ⟨h18, eh18, hf⟩ := nn_e hf
  refine e_hp eh18 ?_
  have uh18 : m_t h18 = m_t h16 := by rw [eh18]; exact rfl
  refine e_aload_n (pc := 53) C dX0_init_53 0 rfl rfl ?_
  refine e_bipush (v := (8 : Int32)) (pc := 54) C dX0_init_54 (by decide) ?_
  refine e_newi (pc := 56) C dX0_init_56 g220 (by decide) (N := 8) (by decide) (by decide) (Nat.le_of_ble_eq_true rfl) (Nat.le_of_ble_eq_true rfl) ?_
  obtain ⟨x19, ex19, hf⟩ := nn_e hf
  refine e_topr ex19 ?_
  obtain ⟨h20, eh20, hf⟩ := nn_e hf
  refine e_hp eh20 ?_
  obtain ⟨t21, hf⟩ := ck_e hf
  refine e_putrF (pc := 58) (x := some x19) 0 9 C hin dX0_init_58 (by decide) (by decide) g430 rfl rfl rfl rfl rfl t21 ?_
  obtain ⟨h22, eh22, hf⟩ := nn_e hf
  refine e_hp eh22 ?_
  have uh22 : m_t h22 = m_t h20 := by rw [eh22]; exact rfl
  refine e_aload_n (pc := 61) C dX0_init_61 0 rfl rfl ?_
  refine e_aload_n (pc := 62) C dX0_init_62 1 rfl rfl ?_
  refine e_putr (pc := 63) (x := some v1) 0 0 C dX0_init_63 (by decide) (by decide) g393 rfl rfl rfl rfl (e_mt uh22 t21) ?_
  obtain ⟨h23, eh23, hf⟩ := nn_e hf
  refine e_hp eh23 ?_
  have uh23 : m_t h23 = m_t h20 := by rw [eh23]; exact uh22
  obtain rfl := so_e hf
  exact e_vret (pc := 66) C hr dX0_init_66 (Nat.le_of_ble_eq_true rfl) (Nat.le_of_ble_eq_true rfl)
theorem dX6_init_0 : decode cX6_init 0 = .ok (.aload_n 0, 1) := by decide +kernel
theorem dX6_init_1 : decode cX6_init 1 = .ok (.invokespecial 3, 3) := by decide +kernel
theorem dX6_init_4 : decode cX6_init 4 = .ok (.aload_n 0, 1) := by decide +kernel
theorem dX6_init_5 : decode cX6_init 5 = .ok (.iconst 0, 1) := by decide +kernel
theorem dX6_init_6 : decode cX6_init 6 = .ok (.putfield 9, 3) := by decide +kernel
theorem dX6_init_9 : decode cX6_init 9 = .ok (.aload_n 0, 1) := by decide +kernel
theorem dX6_init_10 : decode cX6_init 10 = .ok (.iconst (-1), 1) := by decide +kernel
theorem dX6_init_11 : decode cX6_init 11 = .ok (.putfield 15, 3) := by decide +kernel
theorem dX6_init_14 : decode cX6_init 14 = .ok (.aload_n 0, 1) := by decide +kernel
theorem dX6_init_15 : decode cX6_init 15 = .ok (.iconst 0, 1) := by decide +kernel
theorem dX6_init_16 : decode cX6_init 16 = .ok (.putfield 18, 3) := by decide +kernel
theorem dX6_init_19 : decode cX6_init 19 = .ok (.aload_n 0, 1) := by decide +kernel
theorem dX6_init_20 : decode cX6_init 20 = .ok (.iconst 0, 1) := by decide +kernel
theorem dX6_init_21 : decode cX6_init 21 = .ok (.putfield 21, 3) := by decide +kernel
theorem dX6_init_24 : decode cX6_init 24 = .ok (.aload_n 0, 1) := by decide +kernel
theorem dX6_init_25 : decode cX6_init 25 = .ok (.bipush 10, 2) := by decide +kernel
theorem dX6_init_27 : decode cX6_init 27 = .ok (.newarray .int, 2) := by decide +kernel
theorem dX6_init_29 : decode cX6_init 29 = .ok (.putfield 24, 3) := by decide +kernel
theorem dX6_init_32 : decode cX6_init 32 = .ok (.aload_n 0, 1) := by decide +kernel
theorem dX6_init_33 : decode cX6_init 33 = .ok (.bipush 10, 2) := by decide +kernel
theorem dX6_init_35 : decode cX6_init 35 = .ok (.newarray .int, 2) := by decide +kernel
theorem dX6_init_37 : decode cX6_init 37 = .ok (.putfield 28, 3) := by decide +kernel
theorem dX6_init_40 : decode cX6_init 40 = .ok (.aload_n 0, 1) := by decide +kernel
theorem dX6_init_41 : decode cX6_init 41 = .ok (.aload_n 1, 1) := by decide +kernel
theorem dX6_init_42 : decode cX6_init 42 = .ok (.putfield 31, 3) := by decide +kernel
theorem dX6_init_45 : decode cX6_init 45 = .ok (.return_, 1) := by decide +kernel
def f_X6_init (G : GG) (v0 : Nat) (v1 : Nat) (h : AH) : Option (AH) :=
ck (m_t h v0 = .inl 6) <|
nn (m_si h v0 1 (0 : Int32)) fun h2 =>
nn (m_si h2 v0 2 (-1 : Int32)) fun h3 =>
nn (m_si h3 v0 3 (0 : Int32)) fun h4 =>
nn (m_si h4 v0 4 (0 : Int32)) fun h5 =>
nn (m_n h5) fun x6 =>
nn (m_new h5 (.inr (.int, 10))) fun h7 =>
ck (m_t h7 v0 = .inl 6) <|
nn (m_sr h7 v0 5 (some x6)) fun h9 =>
nn (m_n h9) fun x10 =>
nn (m_new h9 (.inr (.int, 10))) fun h11 =>
ck (m_t h11 v0 = .inl 6) <|
nn (m_sr h11 v0 6 (some x10)) fun h13 =>
nn (m_sr h13 v0 0 (some v1)) fun h14 =>
some h14
set_option maxHeartbeats 4000000 in
set_option maxRecDepth 100000 in
theorem ct_X6_init {G : GG} {l : Launch} {v0 : Nat} {v1 : Nat} {h : AH} {y : AH} (hf : f_X6_init G v0 v1 h = some y) : Ct G l yX6_init cX6_init 2 none 1 24 2 20 [.ref v0, .ref v1] h (none, y) := by
  refine ct_of (by decide) (Nat.le_of_ble_eq_true rfl) ?_
  intro p e s m args below meth c C hm hr hin
  have C : Cx G cX6_init RX6 p s m args meth c := C
  refine e_lv (lv2 := [(0, .ref v0), (1, .ref v1)]) [0, 1] rfl ?_
  unfold f_X6_init at hf
  refine e_aload_n (pc := 0) C dX6_init_0 0 rfl rfl ?_
  refine e_objInit (pc := 1) C dX6_init_1 g456 g173 g174 (Nat.le_of_ble_eq_true rfl) (Nat.le_of_ble_eq_true rfl) ?_
  refine e_aload_n (pc := 4) C dX6_init_4 0 rfl rfl ?_
  refine e_iconst (v := (0 : Int32)) (pc := 5) C dX6_init_5 (by decide) ?_
  obtain ⟨t1, hf⟩ := ck_e hf
  refine e_puti (pc := 6) 6 1 C dX6_init_6 (by decide) (by decide) g460 rfl rfl rfl rfl t1 ?_
  obtain ⟨h2, eh2, hf⟩ := nn_e hf
  refine e_hp eh2 ?_
  have uh2 : m_t h2 = m_t h := by rw [eh2]; exact rfl
  refine e_aload_n (pc := 9) C dX6_init_9 0 rfl rfl ?_
  refine e_iconst (v := (-1 : Int32)) (pc := 10) C dX6_init_10 (by decide) ?_
  refine e_puti (pc := 11) 6 2 C dX6_init_11 (by decide) (by decide) g462 rfl rfl rfl rfl (e_mt uh2 t1) ?_
  obtain ⟨h3, eh3, hf⟩ := nn_e hf
  refine e_hp eh3 ?_
  have uh3 : m_t h3 = m_t h := by rw [eh3]; exact uh2
  refine e_aload_n (pc := 14) C dX6_init_14 0 rfl rfl ?_
  refine e_iconst (v := (0 : Int32)) (pc := 15) C dX6_init_15 (by decide) ?_
  refine e_puti (pc := 16) 6 3 C dX6_init_16 (by decide) (by decide) g464 rfl rfl rfl rfl (e_mt uh3 t1) ?_
  obtain ⟨h4, eh4, hf⟩ := nn_e hf
  refine e_hp eh4 ?_
  have uh4 : m_t h4 = m_t h := by rw [eh4]; exact uh3
  refine e_aload_n (pc := 19) C dX6_init_19 0 rfl rfl ?_
  refine e_iconst (v := (0 : Int32)) (pc := 20) C dX6_init_20 (by decide) ?_
  refine e_puti (pc := 21) 6 4 C dX6_init_21 (by decide) (by decide) g466 rfl rfl rfl rfl (e_mt uh4 t1) ?_
  obtain ⟨h5, eh5, hf⟩ := nn_e hf
  refine e_hp eh5 ?_
  have uh5 : m_t h5 = m_t h := by rw [eh5]; exact uh4
  refine e_aload_n (pc := 24) C dX6_init_24 0 rfl rfl ?_
  refine e_bipush (v := (10 : Int32)) (pc := 25) C dX6_init_25 (by decide) ?_
  refine e_newi (pc := 27) C dX6_init_27 g220 (by decide) (N := 10) (by decide) (by decide) (Nat.le_of_ble_eq_true rfl) (Nat.le_of_ble_eq_true rfl) ?_
  obtain ⟨x6, ex6, hf⟩ := nn_e hf
  refine e_topr ex6 ?_
  obtain ⟨h7, eh7, hf⟩ := nn_e hf
  refine e_hp eh7 ?_
  obtain ⟨t8, hf⟩ := ck_e hf
  refine e_putrF (pc := 29) (x := some x6) 6 5 C hin dX6_init_29 (by decide) (by decide) g469 rfl rfl rfl rfl rfl t8 ?_
  obtain ⟨h9, eh9, hf⟩ := nn_e hf
  refine e_hp eh9 ?_
  have uh9 : m_t h9 = m_t h7 := by rw [eh9]; exact rfl
  refine e_aload_n (pc := 32) C dX6_init_32 0 rfl rfl ?_
  refine e_bipush (v := (10 : Int32)) (pc := 33) C dX6_init_33 (by decide) ?_
  refine e_newi (pc := 35) C dX6_init_35 g220 (by decide) (N := 10) (by decide) (by decide) (Nat.le_of_ble_eq_true rfl) (Nat.le_of_ble_eq_true rfl) ?_
  obtain ⟨x10, ex10, hf⟩ := nn_e hf
  refine e_topr ex10 ?_
  obtain ⟨h11, eh11, hf⟩ := nn_e hf
  refine e_hp eh11 ?_
  obtain ⟨t12, hf⟩ := ck_e hf
  refine e_putrF (pc := 37) (x := some x10) 6 6 C hin dX6_init_37 (by decide) (by decide) g471 rfl rfl rfl rfl rfl t12 ?_
  obtain ⟨h13, eh13, hf⟩ := nn_e hf
  refine e_hp eh13 ?_
  have uh13 : m_t h13 = m_t h11 := by rw [eh13]; exact rfl
  refine e_aload_n (pc := 40) C dX6_init_40 0 rfl rfl ?_
  refine e_aload_n (pc := 41) C dX6_init_41 1 rfl rfl ?_
  refine e_putr (pc := 42) (x := some v1) 6 0 C dX6_init_42 (by decide) (by decide) g457 rfl rfl rfl rfl (e_mt uh13 t12) ?_
  obtain ⟨h14, eh14, hf⟩ := nn_e hf
  refine e_hp eh14 ?_
  have uh14 : m_t h14 = m_t h11 := by rw [eh14]; exact uh13
  obtain rfl := so_e hf
  exact e_vret (pc := 45) C hr dX6_init_45 (Nat.le_of_ble_eq_true rfl) (Nat.le_of_ble_eq_true rfl)
theorem dX7_init_0 : decode cX7_init 0 = .ok (.aload_n 0, 1) := by decide +kernel
theorem dX7_init_1 : decode cX7_init 1 = .ok (.invokespecial 3, 3) := by decide +kernel
theorem dX7_init_4 : decode cX7_init 4 = .ok (.aload_n 0, 1) := by decide +kernel
theorem dX7_init_5 : decode cX7_init 5 = .ok (.bipush 8, 2) := by decide +kernel
theorem dX7_init_7 : decode cX7_init 7 = .ok (.newarray .int, 2) := by decide +kernel
theorem dX7_init_9 : decode cX7_init 9 = .ok (.putfield 9, 3) := by decide +kernel
theorem dX7_init_12 : decode cX7_init 12 = .ok (.aload_n 0, 1) := by decide +kernel
theorem dX7_init_13 : decode cX7_init 13 = .ok (.iconst 0, 1) := by decide +kernel
theorem dX7_init_14 : decode cX7_init 14 = .ok (.putfield 15, 3) := by decide +kernel
theorem dX7_init_17 : decode cX7_init 17 = .ok (.aload_n 0, 1) := by decide +kernel
theorem dX7_init_18 : decode cX7_init 18 = .ok (.bipush 64, 2) := by decide +kernel
theorem dX7_init_20 : decode cX7_init 20 = .ok (.newarray .int, 2) := by decide +kernel
theorem dX7_init_22 : decode cX7_init 22 = .ok (.putfield 19, 3) := by decide +kernel
theorem dX7_init_25 : decode cX7_init 25 = .ok (.aload_n 0, 1) := by decide +kernel
theorem dX7_init_26 : decode cX7_init 26 = .ok (.sipush 256, 3) := by decide +kernel
theorem dX7_init_29 : decode cX7_init 29 = .ok (.newarray .int, 2) := by decide +kernel
theorem dX7_init_31 : decode cX7_init 31 = .ok (.putfield 22, 3) := by decide +kernel
theorem dX7_init_34 : decode cX7_init 34 = .ok (.aload_n 0, 1) := by decide +kernel
theorem dX7_init_35 : decode cX7_init 35 = .ok (.bipush 8, 2) := by decide +kernel
theorem dX7_init_37 : decode cX7_init 37 = .ok (.newarray .int, 2) := by decide +kernel
theorem dX7_init_39 : decode cX7_init 39 = .ok (.putfield 25, 3) := by decide +kernel
theorem dX7_init_42 : decode cX7_init 42 = .ok (.aload_n 0, 1) := by decide +kernel
theorem dX7_init_43 : decode cX7_init 43 = .ok (.iconst 0, 1) := by decide +kernel
theorem dX7_init_44 : decode cX7_init 44 = .ok (.putfield 28, 3) := by decide +kernel
theorem dX7_init_47 : decode cX7_init 47 = .ok (.aload_n 0, 1) := by decide +kernel
theorem dX7_init_48 : decode cX7_init 48 = .ok (.iconst 0, 1) := by decide +kernel
theorem dX7_init_49 : decode cX7_init 49 = .ok (.putfield 31, 3) := by decide +kernel
theorem dX7_init_52 : decode cX7_init 52 = .ok (.return_, 1) := by decide +kernel
def f_X7_init (G : GG) (v0 : Nat) (h : AH) : Option (AH) :=
nn (m_n h) fun x1 =>
nn (m_new h (.inr (.int, 8))) fun h2 =>
ck (m_t h2 v0 = .inl 7) <|
nn (m_sr h2 v0 0 (some x1)) fun h4 =>
nn (m_si h4 v0 1 (0 : Int32)) fun h5 =>
nn (m_n h5) fun x6 =>
nn (m_new h5 (.inr (.int, 64))) fun h7 =>
ck (m_t h7 v0 = .inl 7) <|
nn (m_sr h7 v0 2 (some x6)) fun h9 =>
nn (m_n h9) fun x10 =>
nn (m_new h9 (.inr (.int, 256))) fun h11 =>
ck (m_t h11 v0 = .inl 7) <|
nn (m_sr h11 v0 3 (some x10)) fun h13 =>
nn (m_n h13) fun x14 =>
nn (m_new h13 (.inr (.int, 8))) fun h15 =>
ck (m_t h15 v0 = .inl 7) <|
nn (m_sr h15 v0 4 (some x14)) fun h17 =>
nn (m_si h17 v0 5 (0 : Int32)) fun h18 =>
nn (m_si h18 v0 6 (0 : Int32)) fun h19 =>
some h19
set_option maxHeartbeats 4000000 in
set_option maxRecDepth 100000 in
theorem ct_X7_init {G : GG} {l : Launch} {v0 : Nat} {h : AH} {y : AH} (hf : f_X7_init G v0 h = some y) : Ct G l yX7_init cX7_init 1 none 1 24 4 336 [.ref v0] h (none, y) := by
  refine ct_of (by decide) (Nat.le_of_ble_eq_true rfl) ?_
  intro p e s m args below meth c C hm hr hin
  have C : Cx G cX7_init RX7 p s m args meth c := C
  refine e_lv (lv2 := [(0, .ref v0)]) [0] rfl ?_
  unfold f_X7_init at hf
  refine e_aload_n (pc := 0) C dX7_init_0 0 rfl rfl ?_
  refine e_objInit (pc := 1) C dX7_init_1 g494 g173 g174 (Nat.le_of_ble_eq_true rfl) (Nat.le_of_ble_eq_true rfl) ?_
  refine e_aload_n (pc := 4) C dX7_init_4 0 rfl rfl ?_
  refine e_bipush (v := (8 : Int32)) (pc := 5) C dX7_init_5 (by decide) ?_
  refine e_newi (pc := 7) C dX7_init_7 g220 (by decide) (N := 8) (by decide) (by decide) (Nat.le_of_ble_eq_true rfl) (Nat.le_of_ble_eq_true rfl) ?_
  obtain ⟨x1, ex1, hf⟩ := nn_e hf
  refine e_topr ex1 ?_
  obtain ⟨h2, eh2, hf⟩ := nn_e hf
  refine e_hp eh2 ?_
  obtain ⟨t3, hf⟩ := ck_e hf
  refine e_putrF (pc := 9) (x := some x1) 7 0 C hin dX7_init_9 (by decide) (by decide) g495 rfl rfl rfl rfl rfl t3 ?_
  obtain ⟨h4, eh4, hf⟩ := nn_e hf
  refine e_hp eh4 ?_
  have uh4 : m_t h4 = m_t h2 := by rw [eh4]; exact rfl
  refine e_aload_n (pc := 12) C dX7_init_12 0 rfl rfl ?_
  refine e_iconst (v := (0 : Int32)) (pc := 13) C dX7_init_13 (by decide) ?_
  refine e_puti (pc := 14) 7 1 C dX7_init_14 (by decide) (by decide) g496 rfl rfl rfl rfl (e_mt uh4 t3) ?_
  obtain ⟨h5, eh5, hf⟩ := nn_e hf
  refine e_hp eh5 ?_
  have uh5 : m_t h5 = m_t h2 := by rw [eh5]; exact uh4
  refine e_aload_n (pc := 17) C dX7_init_17 0 rfl rfl ?_
  refine e_bipush (v := (64 : Int32)) (pc := 18) C dX7_init_18 (by decide) ?_
  refine e_newi (pc := 20) C dX7_init_20 g220 (by decide) (N := 64) (by decide) (by decide) (Nat.le_of_ble_eq_true rfl) (Nat.le_of_ble_eq_true rfl) ?_
  obtain ⟨x6, ex6, hf⟩ := nn_e hf
  refine e_topr ex6 ?_
  obtain ⟨h7, eh7, hf⟩ := nn_e hf
  refine e_hp eh7 ?_
  obtain ⟨t8, hf⟩ := ck_e hf
  refine e_putrF (pc := 22) (x := some x6) 7 2 C hin dX7_init_22 (by decide) (by decide) g497 rfl rfl rfl rfl rfl t8 ?_
  obtain ⟨h9, eh9, hf⟩ := nn_e hf
  refine e_hp eh9 ?_
  have uh9 : m_t h9 = m_t h7 := by rw [eh9]; exact rfl
  refine e_aload_n (pc := 25) C dX7_init_25 0 rfl rfl ?_
  refine e_sipush (v := (256 : Int32)) (pc := 26) C dX7_init_26 (by decide) ?_
  refine e_newi (pc := 29) C dX7_init_29 g220 (by decide) (N := 256) (by decide) (by decide) (Nat.le_of_ble_eq_true rfl) (Nat.le_of_ble_eq_true rfl) ?_
  obtain ⟨x10, ex10, hf⟩ := nn_e hf
  refine e_topr ex10 ?_
  obtain ⟨h11, eh11, hf⟩ := nn_e hf
  refine e_hp eh11 ?_
  obtain ⟨t12, hf⟩ := ck_e hf
  refine e_putrF (pc := 31) (x := some x10) 7 3 C hin dX7_init_31 (by decide) (by decide) g498 rfl rfl rfl rfl rfl t12 ?_
  obtain ⟨h13, eh13, hf⟩ := nn_e hf
  refine e_hp eh13 ?_
  have uh13 : m_t h13 = m_t h11 := by rw [eh13]; exact rfl
  refine e_aload_n (pc := 34) C dX7_init_34 0 rfl rfl ?_
  refine e_bipush (v := (8 : Int32)) (pc := 35) C dX7_init_35 (by decide) ?_
  refine e_newi (pc := 37) C dX7_init_37 g220 (by decide) (N := 8) (by decide) (by decide) (Nat.le_of_ble_eq_true rfl) (Nat.le_of_ble_eq_true rfl) ?_
  obtain ⟨x14, ex14, hf⟩ := nn_e hf
  refine e_topr ex14 ?_
  obtain ⟨h15, eh15, hf⟩ := nn_e hf
  refine e_hp eh15 ?_
  obtain ⟨t16, hf⟩ := ck_e hf
  refine e_putrF (pc := 39) (x := some x14) 7 4 C hin dX7_init_39 (by decide) (by decide) g499 rfl rfl rfl rfl rfl t16 ?_
  obtain ⟨h17, eh17, hf⟩ := nn_e hf
  refine e_hp eh17 ?_
  have uh17 : m_t h17 = m_t h15 := by rw [eh17]; exact rfl
  refine e_aload_n (pc := 42) C dX7_init_42 0 rfl rfl ?_
  refine e_iconst (v := (0 : Int32)) (pc := 43) C dX7_init_43 (by decide) ?_
  refine e_puti (pc := 44) 7 5 C dX7_init_44 (by decide) (by decide) g501 rfl rfl rfl rfl (e_mt uh17 t16) ?_
  obtain ⟨h18, eh18, hf⟩ := nn_e hf
  refine e_hp eh18 ?_
  have uh18 : m_t h18 = m_t h15 := by rw [eh18]; exact uh17
  refine e_aload_n (pc := 47) C dX7_init_47 0 rfl rfl ?_
  refine e_iconst (v := (0 : Int32)) (pc := 48) C dX7_init_48 (by decide) ?_
  refine e_puti (pc := 49) 7 6 C dX7_init_49 (by decide) (by decide) g503 rfl rfl rfl rfl (e_mt uh18 t16) ?_
  obtain ⟨h19, eh19, hf⟩ := nn_e hf
  refine e_hp eh19 ?_
  have uh19 : m_t h19 = m_t h15 := by rw [eh19]; exact uh18
  obtain rfl := so_e hf
  exact e_vret (pc := 52) C hr dX7_init_52 (Nat.le_of_ble_eq_true rfl) (Nat.le_of_ble_eq_true rfl)
theorem dX4_init_0 : decode cX4_init 0 = .ok (.aload_n 0, 1) := by decide +kernel
theorem dX4_init_1 : decode cX4_init 1 = .ok (.invokespecial 3, 3) := by decide +kernel
theorem dX4_init_4 : decode cX4_init 4 = .ok (.aload_n 0, 1) := by decide +kernel
theorem dX4_init_5 : decode cX4_init 5 = .ok (.bipush 24, 2) := by decide +kernel
theorem dX4_init_7 : decode cX4_init 7 = .ok (.newarray .int, 2) := by decide +kernel
theorem dX4_init_9 : decode cX4_init 9 = .ok (.putfield 9, 3) := by decide +kernel
theorem dX4_init_12 : decode cX4_init 12 = .ok (.aload_n 0, 1) := by decide +kernel
theorem dX4_init_13 : decode cX4_init 13 = .ok (.bipush 24, 2) := by decide +kernel
theorem dX4_init_15 : decode cX4_init 15 = .ok (.newarray .int, 2) := by decide +kernel
theorem dX4_init_17 : decode cX4_init 17 = .ok (.putfield 15, 3) := by decide +kernel
theorem dX4_init_20 : decode cX4_init 20 = .ok (.aload_n 0, 1) := by decide +kernel
theorem dX4_init_21 : decode cX4_init 21 = .ok (.bipush 24, 2) := by decide +kernel
theorem dX4_init_23 : decode cX4_init 23 = .ok (.newarray .int, 2) := by decide +kernel
theorem dX4_init_25 : decode cX4_init 25 = .ok (.putfield 18, 3) := by decide +kernel
theorem dX4_init_28 : decode cX4_init 28 = .ok (.aload_n 0, 1) := by decide +kernel
theorem dX4_init_29 : decode cX4_init 29 = .ok (.bipush 24, 2) := by decide +kernel
theorem dX4_init_31 : decode cX4_init 31 = .ok (.newarray .int, 2) := by decide +kernel
theorem dX4_init_33 : decode cX4_init 33 = .ok (.putfield 21, 3) := by decide +kernel
theorem dX4_init_36 : decode cX4_init 36 = .ok (.aload_n 0, 1) := by decide +kernel
theorem dX4_init_37 : decode cX4_init 37 = .ok (.sipush 144, 3) := by decide +kernel
theorem dX4_init_40 : decode cX4_init 40 = .ok (.newarray .int, 2) := by decide +kernel
theorem dX4_init_42 : decode cX4_init 42 = .ok (.putfield 24, 3) := by decide +kernel
theorem dX4_init_45 : decode cX4_init 45 = .ok (.aload_n 0, 1) := by decide +kernel
theorem dX4_init_46 : decode cX4_init 46 = .ok (.bipush 6, 2) := by decide +kernel
theorem dX4_init_48 : decode cX4_init 48 = .ok (.newarray .int, 2) := by decide +kernel
theorem dX4_init_50 : decode cX4_init 50 = .ok (.putfield 27, 3) := by decide +kernel
theorem dX4_init_53 : decode cX4_init 53 = .ok (.aload_n 0, 1) := by decide +kernel
theorem dX4_init_54 : decode cX4_init 54 = .ok (.sipush 1464, 3) := by decide +kernel
theorem dX4_init_57 : decode cX4_init 57 = .ok (.newarray .int, 2) := by decide +kernel
theorem dX4_init_59 : decode cX4_init 59 = .ok (.putfield 30, 3) := by decide +kernel
theorem dX4_init_62 : decode cX4_init 62 = .ok (.aload_n 0, 1) := by decide +kernel
theorem dX4_init_63 : decode cX4_init 63 = .ok (.sipush 366, 3) := by decide +kernel
theorem dX4_init_66 : decode cX4_init 66 = .ok (.newarray .int, 2) := by decide +kernel
theorem dX4_init_68 : decode cX4_init 68 = .ok (.putfield 33, 3) := by decide +kernel
theorem dX4_init_71 : decode cX4_init 71 = .ok (.aload_n 0, 1) := by decide +kernel
theorem dX4_init_72 : decode cX4_init 72 = .ok (.sipush 366, 3) := by decide +kernel
theorem dX4_init_75 : decode cX4_init 75 = .ok (.newarray .int, 2) := by decide +kernel
theorem dX4_init_77 : decode cX4_init 77 = .ok (.putfield 36, 3) := by decide +kernel
theorem dX4_init_80 : decode cX4_init 80 = .ok (.return_, 1) := by decide +kernel
def f_X4_init (G : GG) (v0 : Nat) (h : AH) : Option (AH) :=
nn (m_n h) fun x1 =>
nn (m_new h (.inr (.int, 24))) fun h2 =>
ck (m_t h2 v0 = .inl 4) <|
nn (m_sr h2 v0 0 (some x1)) fun h4 =>
nn (m_n h4) fun x5 =>
nn (m_new h4 (.inr (.int, 24))) fun h6 =>
ck (m_t h6 v0 = .inl 4) <|
nn (m_sr h6 v0 1 (some x5)) fun h8 =>
nn (m_n h8) fun x9 =>
nn (m_new h8 (.inr (.int, 24))) fun h10 =>
ck (m_t h10 v0 = .inl 4) <|
nn (m_sr h10 v0 2 (some x9)) fun h12 =>
nn (m_n h12) fun x13 =>
nn (m_new h12 (.inr (.int, 24))) fun h14 =>
ck (m_t h14 v0 = .inl 4) <|
nn (m_sr h14 v0 3 (some x13)) fun h16 =>
nn (m_n h16) fun x17 =>
nn (m_new h16 (.inr (.int, 144))) fun h18 =>
ck (m_t h18 v0 = .inl 4) <|
nn (m_sr h18 v0 4 (some x17)) fun h20 =>
nn (m_n h20) fun x21 =>
nn (m_new h20 (.inr (.int, 6))) fun h22 =>
ck (m_t h22 v0 = .inl 4) <|
nn (m_sr h22 v0 5 (some x21)) fun h24 =>
nn (m_n h24) fun x25 =>
nn (m_new h24 (.inr (.int, 1464))) fun h26 =>
ck (m_t h26 v0 = .inl 4) <|
nn (m_sr h26 v0 6 (some x25)) fun h28 =>
nn (m_n h28) fun x29 =>
nn (m_new h28 (.inr (.int, 366))) fun h30 =>
ck (m_t h30 v0 = .inl 4) <|
nn (m_sr h30 v0 7 (some x29)) fun h32 =>
nn (m_n h32) fun x33 =>
nn (m_new h32 (.inr (.int, 366))) fun h34 =>
ck (m_t h34 v0 = .inl 4) <|
nn (m_sr h34 v0 8 (some x33)) fun h36 =>
some h36
set_option maxHeartbeats 4000000 in
set_option maxRecDepth 100000 in
theorem ct_X4_init {G : GG} {l : Launch} {v0 : Nat} {h : AH} {y : AH} (hf : f_X4_init G v0 h = some y) : Ct G l yX4_init cX4_init 1 none 1 24 9 2442 [.ref v0] h (none, y) := by
  refine ct_of (by decide) (Nat.le_of_ble_eq_true rfl) ?_
  intro p e s m args below meth c C hm hr hin
  have C : Cx G cX4_init RX4 p s m args meth c := C
  refine e_lv (lv2 := [(0, .ref v0)]) [0] rfl ?_
  unfold f_X4_init at hf
  refine e_aload_n (pc := 0) C dX4_init_0 0 rfl rfl ?_
  refine e_objInit (pc := 1) C dX4_init_1 g525 g173 g174 (Nat.le_of_ble_eq_true rfl) (Nat.le_of_ble_eq_true rfl) ?_
  refine e_aload_n (pc := 4) C dX4_init_4 0 rfl rfl ?_
  refine e_bipush (v := (24 : Int32)) (pc := 5) C dX4_init_5 (by decide) ?_
  refine e_newi (pc := 7) C dX4_init_7 g220 (by decide) (N := 24) (by decide) (by decide) (Nat.le_of_ble_eq_true rfl) (Nat.le_of_ble_eq_true rfl) ?_
  obtain ⟨x1, ex1, hf⟩ := nn_e hf
  refine e_topr ex1 ?_
  obtain ⟨h2, eh2, hf⟩ := nn_e hf
  refine e_hp eh2 ?_
  obtain ⟨t3, hf⟩ := ck_e hf
  refine e_putrF (pc := 9) (x := some x1) 4 0 C hin dX4_init_9 (by decide) (by decide) g526 rfl rfl rfl rfl rfl t3 ?_
  obtain ⟨h4, eh4, hf⟩ := nn_e hf
  refine e_hp eh4 ?_
  have uh4 : m_t h4 = m_t h2 := by rw [eh4]; exact rfl
  refine e_aload_n (pc := 12) C dX4_init_12 0 rfl rfl ?_
  refine e_bipush (v := (24 : Int32)) (pc := 13) C dX4_init_13 (by decide) ?_
  refine e_newi (pc := 15) C dX4_init_15 g220 (by decide) (N := 24) (by decide) (by decide) (Nat.le_of_ble_eq_true rfl) (Nat.le_of_ble_eq_true rfl) ?_
  obtain ⟨x5, ex5, hf⟩ := nn_e hf
  refine e_topr ex5 ?_
  obtain ⟨h6, eh6, hf⟩ := nn_e hf
  refine e_hp eh6 ?_
  obtain ⟨t7, hf⟩ := ck_e hf
  refine e_putrF (pc := 17) (x := some x5) 4 1 C hin dX4_init_17 (by decide) (by decide) g527 rfl rfl rfl rfl rfl t7 ?_
  obtain ⟨h8, eh8, hf⟩ := nn_e hf
  refine e_hp eh8 ?_
  have uh8 : m_t h8 = m_t h6 := by rw [eh8]; exact rfl
  refine e_aload_n (pc := 20) C dX4_init_20 0 rfl rfl ?_
  refine e_bipush (v := (24 : Int32)) (pc := 21) C dX4_init_21 (by decide) ?_
  refine e_newi (pc := 23) C dX4_init_23 g220 (by decide) (N := 24) (by decide) (by decide) (Nat.le_of_ble_eq_true rfl) (Nat.le_of_ble_eq_true rfl) ?_
  obtain ⟨x9, ex9, hf⟩ := nn_e hf
  refine e_topr ex9 ?_
  obtain ⟨h10, eh10, hf⟩ := nn_e hf
  refine e_hp eh10 ?_
  obtain ⟨t11, hf⟩ := ck_e hf
  refine e_putrF (pc := 25) (x := some x9) 4 2 C hin dX4_init_25 (by decide) (by decide) g528 rfl rfl rfl rfl rfl t11 ?_
  obtain ⟨h12, eh12, hf⟩ := nn_e hf
  refine e_hp eh12 ?_
  have uh12 : m_t h12 = m_t h10 := by rw [eh12]; exact rfl
  refine e_aload_n (pc := 28) C dX4_init_28 0 rfl rfl ?_
  refine e_bipush (v := (24 : Int32)) (pc := 29) C dX4_init_29 (by decide) ?_
  refine e_newi (pc := 31) C dX4_init_31 g220 (by decide) (N := 24) (by decide) (by decide) (Nat.le_of_ble_eq_true rfl) (Nat.le_of_ble_eq_true rfl) ?_
  obtain ⟨x13, ex13, hf⟩ := nn_e hf
  refine e_topr ex13 ?_
  obtain ⟨h14, eh14, hf⟩ := nn_e hf
  refine e_hp eh14 ?_
  obtain ⟨t15, hf⟩ := ck_e hf
  refine e_putrF (pc := 33) (x := some x13) 4 3 C hin dX4_init_33 (by decide) (by decide) g529 rfl rfl rfl rfl rfl t15 ?_
  obtain ⟨h16, eh16, hf⟩ := nn_e hf
  refine e_hp eh16 ?_
  have uh16 : m_t h16 = m_t h14 := by rw [eh16]; exact rfl
  refine e_aload_n (pc := 36) C dX4_init_36 0 rfl rfl ?_
  refine e_sipush (v := (144 : Int32)) (pc := 37) C dX4_init_37 (by decide) ?_
  refine e_newi (pc := 40) C dX4_init_40 g220 (by decide) (N := 144) (by decide) (by decide) (Nat.le_of_ble_eq_true rfl) (Nat.le_of_ble_eq_true rfl) ?_
  obtain ⟨x17, ex17, hf⟩ := nn_e hf
  refine e_topr ex17 ?_
  obtain ⟨h18, eh18, hf⟩ := nn_e hf
  refine e_hp eh18 ?_
  obtain ⟨t19, hf⟩ := ck_e hf
  refine e_putrF (pc := 42) (x := some x17) 4 4 C hin dX4_init_42 (by decide) (by decide) g530 rfl rfl rfl rfl rfl t19 ?_
  obtain ⟨h20, eh20, hf⟩ := nn_e hf
  refine e_hp eh20 ?_
  have uh20 : m_t h20 = m_t h18 := by rw [eh20]; exact rfl
  refine e_aload_n (pc := 45) C dX4_init_45 0 rfl rfl ?_
  refine e_bipush (v := (6 : Int32)) (pc := 46) C dX4_init_46 (by decide) ?_
  refine e_newi (pc := 48) C dX4_init_48 g220 (by decide) (N := 6) (by decide) (by decide) (Nat.le_of_ble_eq_true rfl) (Nat.le_of_ble_eq_true rfl) ?_
  obtain ⟨x21, ex21, hf⟩ := nn_e hf
  refine e_topr ex21 ?_
  obtain ⟨h22, eh22, hf⟩ := nn_e hf
  refine e_hp eh22 ?_
  obtain ⟨t23, hf⟩ := ck_e hf
  refine e_putrF (pc := 50) (x := some x21) 4 5 C hin dX4_init_50 (by decide) (by decide) g531 rfl rfl rfl rfl rfl t23 ?_
  obtain ⟨h24, eh24, hf⟩ := nn_e hf
  refine e_hp eh24 ?_
  have uh24 : m_t h24 = m_t h22 := by rw [eh24]; exact rfl
  refine e_aload_n (pc := 53) C dX4_init_53 0 rfl rfl ?_
  refine e_sipush (v := (1464 : Int32)) (pc := 54) C dX4_init_54 (by decide) ?_
  refine e_newi (pc := 57) C dX4_init_57 g220 (by decide) (N := 1464) (by decide) (by decide) (Nat.le_of_ble_eq_true rfl) (Nat.le_of_ble_eq_true rfl) ?_
  obtain ⟨x25, ex25, hf⟩ := nn_e hf
  refine e_topr ex25 ?_
  obtain ⟨h26, eh26, hf⟩ := nn_e hf
  refine e_hp eh26 ?_
  obtain ⟨t27, hf⟩ := ck_e hf
  refine e_putrF (pc := 59) (x := some x25) 4 6 C hin dX4_init_59 (by decide) (by decide) g532 rfl rfl rfl rfl rfl t27 ?_
  obtain ⟨h28, eh28, hf⟩ := nn_e hf
  refine e_hp eh28 ?_
  have uh28 : m_t h28 = m_t h26 := by rw [eh28]; exact rfl
  refine e_aload_n (pc := 62) C dX4_init_62 0 rfl rfl ?_
  refine e_sipush (v := (366 : Int32)) (pc := 63) C dX4_init_63 (by decide) ?_
  refine e_newi (pc := 66) C dX4_init_66 g220 (by decide) (N := 366) (by decide) (by decide) (Nat.le_of_ble_eq_true rfl) (Nat.le_of_ble_eq_true rfl) ?_
  obtain ⟨x29, ex29, hf⟩ := nn_e hf
  refine e_topr ex29 ?_
  obtain ⟨h30, eh30, hf⟩ := nn_e hf
  refine e_hp eh30 ?_
  obtain ⟨t31, hf⟩ := ck_e hf
  refine e_putrF (pc := 68) (x := some x29) 4 7 C hin dX4_init_68 (by decide) (by decide) g533 rfl rfl rfl rfl rfl t31 ?_
  obtain ⟨h32, eh32, hf⟩ := nn_e hf
  refine e_hp eh32 ?_
  have uh32 : m_t h32 = m_t h30 := by rw [eh32]; exact rfl
  refine e_aload_n (pc := 71) C dX4_init_71 0 rfl rfl ?_
  refine e_sipush (v := (366 : Int32)) (pc := 72) C dX4_init_72 (by decide) ?_
  refine e_newi (pc := 75) C dX4_init_75 g220 (by decide) (N := 366) (by decide) (by decide) (Nat.le_of_ble_eq_true rfl) (Nat.le_of_ble_eq_true rfl) ?_
  obtain ⟨x33, ex33, hf⟩ := nn_e hf
  refine e_topr ex33 ?_
  obtain ⟨h34, eh34, hf⟩ := nn_e hf
  refine e_hp eh34 ?_
  obtain ⟨t35, hf⟩ := ck_e hf
  refine e_putrF (pc := 77) (x := some x33) 4 8 C hin dX4_init_77 (by decide) (by decide) g534 rfl rfl rfl rfl rfl t35 ?_
  obtain ⟨h36, eh36, hf⟩ := nn_e hf
  refine e_hp eh36 ?_
  have uh36 : m_t h36 = m_t h34 := by rw [eh36]; exact rfl
  obtain rfl := so_e hf
  exact e_vret (pc := 80) C hr dX4_init_80 (Nat.le_of_ble_eq_true rfl) (Nat.le_of_ble_eq_true rfl)
theorem dX1_init_0 : decode cX1_init 0 = .ok (.aload_n 0, 1) := by decide +kernel
theorem dX1_init_1 : decode cX1_init 1 = .ok (.invokespecial 3, 3) := by decide +kernel
theorem dX1_init_4 : decode cX1_init 4 = .ok (.aload_n 0, 1) := by decide +kernel
theorem dX1_init_5 : decode cX1_init 5 = .ok (.bipush 61, 2) := by decide +kernel
theorem dX1_init_7 : decode cX1_init 7 = .ok (.newarray .int, 2) := by decide +kernel
theorem dX1_init_9 : decode cX1_init 9 = .ok (.putfield 9, 3) := by decide +kernel
theorem dX1_init_12 : decode cX1_init 12 = .ok (.aload_n 0, 1) := by decide +kernel
theorem dX1_init_13 : decode cX1_init 13 = .ok (.sipush 1464, 3) := by decide +kernel
theorem dX1_init_16 : decode cX1_init 16 = .ok (.newarray .int, 2) := by decide +kernel
theorem dX1_init_18 : decode cX1_init 18 = .ok (.putfield 15, 3) := by decide +kernel
theorem dX1_init_21 : decode cX1_init 21 = .ok (.aload_n 0, 1) := by decide +kernel
theorem dX1_init_22 : decode cX1_init 22 = .ok (.bipush 61, 2) := by decide +kernel
theorem dX1_init_24 : decode cX1_init 24 = .ok (.newarray .int, 2) := by decide +kernel
theorem dX1_init_26 : decode cX1_init 26 = .ok (.putfield 18, 3) := by decide +kernel
theorem dX1_init_29 : decode cX1_init 29 = .ok (.aload_n 0, 1) := by decide +kernel
theorem dX1_init_30 : decode cX1_init 30 = .ok (.iconst 0, 1) := by decide +kernel
theorem dX1_init_31 : decode cX1_init 31 = .ok (.putfield 21, 3) := by decide +kernel
theorem dX1_init_34 : decode cX1_init 34 = .ok (.return_, 1) := by decide +kernel
def f_X1_init (G : GG) (v0 : Nat) (h : AH) : Option (AH) :=
nn (m_n h) fun x1 =>
nn (m_new h (.inr (.int, 61))) fun h2 =>
ck (m_t h2 v0 = .inl 1) <|
nn (m_sr h2 v0 0 (some x1)) fun h4 =>
nn (m_n h4) fun x5 =>
nn (m_new h4 (.inr (.int, 1464))) fun h6 =>
ck (m_t h6 v0 = .inl 1) <|
nn (m_sr h6 v0 1 (some x5)) fun h8 =>
nn (m_n h8) fun x9 =>
nn (m_new h8 (.inr (.int, 61))) fun h10 =>
ck (m_t h10 v0 = .inl 1) <|
nn (m_sr h10 v0 2 (some x9)) fun h12 =>
nn (m_si h12 v0 3 (0 : Int32)) fun h13 =>
some h13
set_option maxHeartbeats 4000000 in
set_option maxRecDepth 100000 in
theorem ct_X1_init {G : GG} {l : Launch} {v0 : Nat} {h : AH} {y : AH} (hf : f_X1_init G v0 h = some y) : Ct G l yX1_init cX1_init 1 none 1 24 3 1586 [.ref v0] h (none, y) := by
  refine ct_of (by decide) (Nat.le_of_ble_eq_true rfl) ?_
  intro p e s m args below meth c C hm hr hin
  have C : Cx G cX1_init RX1 p s m args meth c := C
  refine e_lv (lv2 := [(0, .ref v0)]) [0] rfl ?_
  unfold f_X1_init at hf
  refine e_aload_n (pc := 0) C dX1_init_0 0 rfl rfl ?_
  refine e_objInit (pc := 1) C dX1_init_1 g559 g173 g174 (Nat.le_of_ble_eq_true rfl) (Nat.le_of_ble_eq_true rfl) ?_
  refine e_aload_n (pc := 4) C dX1_init_4 0 rfl rfl ?_
  refine e_bipush (v := (61 : Int32)) (pc := 5) C dX1_init_5 (by decide) ?_
  refine e_newi (pc := 7) C dX1_init_7 g220 (by decide) (N := 61) (by decide) (by decide) (Nat.le_of_ble_eq_true rfl) (Nat.le_of_ble_eq_true rfl) ?_
  obtain ⟨x1, ex1, hf⟩ := nn_e hf
  refine e_topr ex1 ?_
  obtain ⟨h2, eh2, hf⟩ := nn_e hf
  refine e_hp eh2 ?_
  obtain ⟨t3, hf⟩ := ck_e hf
  refine e_putrF (pc := 9) (x := some x1) 1 0 C hin dX1_init_9 (by decide) (by decide) g560 rfl rfl rfl rfl rfl t3 ?_
  obtain ⟨h4, eh4, hf⟩ := nn_e hf
  refine e_hp eh4 ?_
  have uh4 : m_t h4 = m_t h2 := by rw [eh4]; exact rfl
  refine e_aload_n (pc := 12) C dX1_init_12 0 rfl rfl ?_
  refine e_sipush (v := (1464 : Int32)) (pc := 13) C dX1_init_13 (by decide) ?_
  refine e_newi (pc := 16) C dX1_init_16 g220 (by decide) (N := 1464) (by decide) (by decide) (Nat.le_of_ble_eq_true rfl) (Nat.le_of_ble_eq_true rfl) ?_
  obtain ⟨x5, ex5, hf⟩ := nn_e hf
  refine e_topr ex5 ?_
  obtain ⟨h6, eh6, hf⟩ := nn_e hf
  refine e_hp eh6 ?_
  obtain ⟨t7, hf⟩ := ck_e hf
  refine e_putrF (pc := 18) (x := some x5) 1 1 C hin dX1_init_18 (by decide) (by decide) g561 rfl rfl rfl rfl rfl t7 ?_
  obtain ⟨h8, eh8, hf⟩ := nn_e hf
  refine e_hp eh8 ?_
  have uh8 : m_t h8 = m_t h6 := by rw [eh8]; exact rfl
  refine e_aload_n (pc := 21) C dX1_init_21 0 rfl rfl ?_
  refine e_bipush (v := (61 : Int32)) (pc := 22) C dX1_init_22 (by decide) ?_
  refine e_newi (pc := 24) C dX1_init_24 g220 (by decide) (N := 61) (by decide) (by decide) (Nat.le_of_ble_eq_true rfl) (Nat.le_of_ble_eq_true rfl) ?_
  obtain ⟨x9, ex9, hf⟩ := nn_e hf
  refine e_topr ex9 ?_
  obtain ⟨h10, eh10, hf⟩ := nn_e hf
  refine e_hp eh10 ?_
  obtain ⟨t11, hf⟩ := ck_e hf
  refine e_putrF (pc := 26) (x := some x9) 1 2 C hin dX1_init_26 (by decide) (by decide) g562 rfl rfl rfl rfl rfl t11 ?_
  obtain ⟨h12, eh12, hf⟩ := nn_e hf
  refine e_hp eh12 ?_
  have uh12 : m_t h12 = m_t h10 := by rw [eh12]; exact rfl
  refine e_aload_n (pc := 29) C dX1_init_29 0 rfl rfl ?_
  refine e_iconst (v := (0 : Int32)) (pc := 30) C dX1_init_30 (by decide) ?_
  refine e_puti (pc := 31) 1 3 C dX1_init_31 (by decide) (by decide) g563 rfl rfl rfl rfl (e_mt uh12 t11) ?_
  obtain ⟨h13, eh13, hf⟩ := nn_e hf
  refine e_hp eh13 ?_
  have uh13 : m_t h13 = m_t h10 := by rw [eh13]; exact uh12
  obtain rfl := so_e hf
  exact e_vret (pc := 34) C hr dX1_init_34 (Nat.le_of_ble_eq_true rfl) (Nat.le_of_ble_eq_true rfl)
theorem dX11_init_0 : decode cX11_init 0 = .ok (.aload_n 0, 1) := by decide +kernel
theorem dX11_init_1 : decode cX11_init 1 = .ok (.invokespecial 1, 3) := by decide +kernel
theorem dX11_init_4 : decode cX11_init 4 = .ok (.aload_n 0, 1) := by decide +kernel
theorem dX11_init_5 : decode cX11_init 5 = .ok (.new 7, 3) := by decide +kernel
theorem dX11_init_8 : decode cX11_init 8 = .ok (.dup, 1) := by decide +kernel
theorem dX11_init_9 : decode cX11_init 9 = .ok (.invokespecial 9, 3) := by decide +kernel
theorem dX11_init_12 : decode cX11_init 12 = .ok (.putfield 10, 3) := by decide +kernel
theorem dX11_init_15 : decode cX11_init 15 = .ok (.aload_n 0, 1) := by decide +kernel
theorem dX11_init_16 : decode cX11_init 16 = .ok (.new 16, 3) := by decide +kernel
theorem dX11_init_19 : decode cX11_init 19 = .ok (.dup, 1) := by decide +kernel
theorem dX11_init_20 : decode cX11_init 20 = .ok (.aload_n 0, 1) := by decide +kernel
theorem dX11_init_21 : decode cX11_init 21 = .ok (.getfield 10, 3) := by decide +kernel
theorem dX11_init_24 : decode cX11_init 24 = .ok (.invokespecial 18, 3) := by decide +kernel
theorem dX11_init_27 : decode cX11_init 27 = .ok (.putfield 21, 3) := by decide +kernel
theorem dX11_init_30 : decode cX11_init 30 = .ok (.aload_n 0, 1) := by decide +kernel
theorem dX11_init_31 : decode cX11_init 31 = .ok (.new 25, 3) := by decide +kernel
theorem dX11_init_34 : decode cX11_init 34 = .ok (.dup, 1) := by decide +kernel
theorem dX11_init_35 : decode cX11_init 35 = .ok (.aload_n 0, 1) := by decide +kernel
theorem dX11_init_36 : decode cX11_init 36 = .ok (.getfield 10, 3) := by decide +kernel
theorem dX11_init_39 : decode cX11_init 39 = .ok (.invokespecial 27, 3) := by decide +kernel
theorem dX11_init_42 : decode cX11_init 42 = .ok (.putfield 28, 3) := by decide +kernel
theorem dX11_init_45 : decode cX11_init 45 = .ok (.aload_n 0, 1) := by decide +kernel
theorem dX11_init_46 : decode cX11_init 46 = .ok (.bipush 6, 2) := by decide +kernel
theorem dX11_init_48 : decode cX11_init 48 = .ok (.anewarray 32, 3) := by decide +kernel
theorem dX11_init_51 : decode cX11_init 51 = .ok (.putfield 34, 3) := by decide +kernel
theorem dX11_init_54 : decode cX11_init 54 = .ok (.aload_n 0, 1) := by decide +kernel
theorem dX11_init_55 : decode cX11_init 55 = .ok (.iconst 0, 1) := by decide +kernel
theorem dX11_init_56 : decode cX11_init 56 = .ok (.putfield 38, 3) := by decide +kernel
theorem dX11_init_59 : decode cX11_init 59 = .ok (.aload_n 0, 1) := by decide +kernel
theorem dX11_init_60 : decode cX11_init 60 = .ok (.new 42, 3) := by decide +kernel
theorem dX11_init_63 : decode cX11_init 63 = .ok (.dup, 1) := by decide +kernel
theorem dX11_init_64 : decode cX11_init 64 = .ok (.new 44, 3) := by decide +kernel
theorem dX11_init_67 : decode cX11_init 67 = .ok (.dup, 1) := by decide +kernel
theorem dX11_init_68 : decode cX11_init 68 = .ok (.new 46, 3) := by decide +kernel
theorem dX11_init_71 : decode cX11_init 71 = .ok (.dup, 1) := by decide +kernel
theorem dX11_init_72 : decode cX11_init 72 = .ok (.invokespecial 48, 3) := by decide +kernel
theorem dX11_init_75 : decode cX11_init 75 = .ok (.invokespecial 49, 3) := by decide +kernel
theorem dX11_init_78 : decode cX11_init 78 = .ok (.invokespecial 52, 3) := by decide +kernel
theorem dX11_init_81 : decode cX11_init 81 = .ok (.putfield 55, 3) := by decide +kernel
theorem dX11_init_84 : decode cX11_init 84 = .ok (.aload_n 0, 1) := by decide +kernel
theorem dX11_init_85 : decode cX11_init 85 = .ok (.iconst 4, 1) := by decide +kernel
theorem dX11_init_86 : decode cX11_init 86 = .ok (.anewarray 42, 3) := by decide +kernel
theorem dX11_init_89 : decode cX11_init 89 = .ok (.putfield 59, 3) := by decide +kernel
theorem dX11_init_92 : decode cX11_init 92 = .ok (.aload_n 0, 1) := by decide +kernel
theorem dX11_init_93 : decode cX11_init 93 = .ok (.new 44, 3) := by decide +kernel
theorem dX11_init_96 : decode cX11_init 96 = .ok (.dup, 1) := by decide +kernel
theorem dX11_init_97 : decode cX11_init 97 = .ok (.aload_n 0, 1) := by decide +kernel
theorem dX11_init_98 : decode cX11_init 98 = .ok (.getfield 55, 3) := by decide +kernel
theorem dX11_init_101 : decode cX11_init 101 = .ok (.getfield 63, 3) := by decide +kernel
theorem dX11_init_104 : decode cX11_init 104 = .ok (.getfield 67, 3) := by decide +kernel
theorem dX11_init_107 : decode cX11_init 107 = .ok (.invokespecial 49, 3) := by decide +kernel
theorem dX11_init_110 : decode cX11_init 110 = .ok (.putfield 71, 3) := by decide +kernel
theorem dX11_init_113 : decode cX11_init 113 = .ok (.aload_n 0, 1) := by decide +kernel
theorem dX11_init_114 : decode cX11_init 114 = .ok (.new 74, 3) := by decide +kernel
theorem dX11_init_117 : decode cX11_init 117 = .ok (.dup, 1) := by decide +kernel
theorem dX11_init_118 : decode cX11_init 118 = .ok (.invokespecial 76, 3) := by decide +kernel
theorem dX11_init_121 : decode cX11_init 121 = .ok (.putfield 77, 3) := by decide +kernel
theorem dX11_init_124 : decode cX11_init 124 = .ok (.aload_n 0, 1) := by decide +kernel
theorem dX11_init_125 : decode cX11_init 125 = .ok (.new 81, 3) := by decide +kernel
theorem dX11_init_128 : decode cX11_init 128 = .ok (.dup, 1) := by decide +kernel
theorem dX11_init_129 : decode cX11_init 129 = .ok (.invokespecial 83, 3) := by decide +kernel
theorem dX11_init_132 : decode cX11_init 132 = .ok (.putfield 84, 3) := by decide +kernel
theorem dX11_init_135 : decode cX11_init 135 = .ok (.aload_n 0, 1) := by decide +kernel
theorem dX11_init_136 : decode cX11_init 136 = .ok (.new 88, 3) := by decide +kernel
theorem dX11_init_139 : decode cX11_init 139 = .ok (.dup, 1) := by decide +kernel
theorem dX11_init_140 : decode cX11_init 140 = .ok (.invokespecial 90, 3) := by decide +kernel
theorem dX11_init_143 : decode cX11_init 143 = .ok (.putfield 91, 3) := by decide +kernel
theorem dX11_init_146 : decode cX11_init 146 = .ok (.aload_n 0, 1) := by decide +kernel
theorem dX11_init_147 : decode cX11_init 147 = .ok (.bipush 81, 2) := by decide +kernel
theorem dX11_init_149 : decode cX11_init 149 = .ok (.newarray .int, 2) := by decide +kernel
theorem dX11_init_151 : decode cX11_init 151 = .ok (.putfield 95, 3) := by decide +kernel
theorem dX11_init_154 : decode cX11_init 154 = .ok (.aload_n 0, 1) := by decide +kernel
theorem dX11_init_155 : decode cX11_init 155 = .ok (.iconst 0, 1) := by decide +kernel
theorem dX11_init_156 : decode cX11_init 156 = .ok (.putfield 99, 3) := by decide +kernel
theorem dX11_init_159 : decode cX11_init 159 = .ok (.return_, 1) := by decide +kernel
def f_X11_init (G : GG) (v0 : Nat) (h : AH) : Option (AH) :=
nn (m_n h) fun x1 =>
nn (m_new h (.inl 8)) fun h2 =>
ob (f_X8_init G x1 h2) fun h3 =>
ck (m_t h3 v0 = .inl 11) <|
nn (m_sr h3 v0 0 (some x1)) fun h6 =>
nn (m_n h6) fun x7 =>
nn (m_new h6 (.inl 10)) fun h8 =>
ck (m_t h8 v0 = .inl 11) <|
ob (m_r h8 v0 0) fun b10 =>
ob (f_X10_init G x7 b10 h8) fun h11 =>
ck (m_t h11 v0 = .inl 11) <|
nn (m_sr h11 v0 1 (some x7)) fun h14 =>
nn (m_n h14) fun x15 =>
nn (m_new h14 (.inl 3)) fun h16 =>
ck (m_t h16 v0 = .inl 11) <|
ob (m_r h16 v0 0) fun b18 =>
ob (f_X3_init G x15 b18 h16) fun h19 =>
ck (m_t h19 v0 = .inl 11) <|
nn (m_sr h19 v0 2 (some x15)) fun h22 =>
nn (m_n h22) fun x23 =>
nn (m_new h22 (.inr ((.object RX2), 6))) fun h24 =>
ck (m_t h24 v0 = .inl 11) <|
nn (m_sr h24 v0 3 (some x23)) fun h26 =>
nn (m_si h26 v0 4 (0 : Int32)) fun h27 =>
nn (m_n h27) fun x28 =>
nn (m_new h27 (.inl 6)) fun h29 =>
nn (m_n h29) fun x30 =>
nn (m_new h29 (.inl 0)) fun h31 =>
nn (m_n h31) fun x32 =>
nn (m_new h31 (.inl 9)) fun h33 =>
ob (f_X9_init G x32 h33) fun h34 =>
ob (f_X0_init G x30 x32 h34) fun h36 =>
ob (f_X6_init G x28 x30 h36) fun h38 =>
ck (m_t h38 v0 = .inl 11) <|
nn (m_sr h38 v0 5 (some x28)) fun h41 =>
nn (m_n h41) fun x42 =>
nn (m_new h41 (.inr ((.object RX6), 4))) fun h43 =>
ck (m_t h43 v0 = .inl 11) <|
nn (m_sr h43 v0 6 (some x42)) fun h45 =>
nn (m_n h45) fun x46 =>
nn (m_new h45 (.inl 0)) fun h47 =>
ck (m_t h47 v0 = .inl 11) <|
ob (m_r h47 v0 5) fun b49 =>
ck (m_t h47 b49 = .inl 6) <|
ob (m_r h47 b49 0) fun b51 =>
ck (m_t h47 b51 = .inl 0) <|
ob (m_r h47 b51 0) fun b53 =>
ob (f_X0_init G x46 b53 h47) fun h54 =>
ck (m_t h54 v0 = .inl 11) <|
nn (m_sr h54 v0 7 (some x46)) fun h57 =>
nn (m_n h57) fun x58 =>
nn (m_new h57 (.inl 7)) fun h59 =>
ob (f_X7_init G x58 h59) fun h60 =>
ck (m_t h60 v0 = .inl 11) <|
nn (m_sr h60 v0 8 (some x58)) fun h63 =>
nn (m_n h63) fun x64 =>
nn (m_new h63 (.inl 4)) fun h65 =>
ob (f_X4_init G x64 h65) fun h66 =>
ck (m_t h66 v0 = .inl 11) <|
nn (m_sr h66 v0 9 (some x64)) fun h69 =>
nn (m_n h69) fun x70 =>
nn (m_new h69 (.inl 1)) fun h71 =>
ob (f_X1_init G x70 h71) fun h72 =>
ck (m_t h72 v0 = .inl 11) <|
nn (m_sr h72 v0 10 (some x70)) fun h75 =>
nn (m_n h75) fun x76 =>
nn (m_new h75 (.inr (.int, 81))) fun h77 =>
ck (m_t h77 v0 = .inl 11) <|
nn (m_sr h77 v0 11 (some x76)) fun h79 =>
nn (m_si h79 v0 12 (0 : Int32)) fun h80 =>
some h80
set_option maxHeartbeats 4000000 in
set_option maxRecDepth 100000 in
theorem ct_X11_init {G : GG} {l : Launch} {v0 : Nat} {h : AH} {y : AH} (hf : f_X11_init G v0 h = some y) : Ct G l yX11_init cX11_init 1 none 3 65 58 6708 [.ref v0] h (none, y) := by
  refine ct_of (by decide) (Nat.le_of_ble_eq_true rfl) ?_
  intro p e s m args below meth c C hm hr hin
  have C : Cx G cX11_init RX11 p s m args meth c := C
  refine e_lv (lv2 := [(0, .ref v0)]) [0] rfl ?_
  unfold f_X11_init at hf
  refine e_aload_n (pc := 0) C dX11_init_0 0 rfl rfl ?_
  refine e_objInit (pc := 1) C dX11_init_1 g172 g173 g174 (Nat.le_of_ble_eq_true rfl) (Nat.le_of_ble_eq_true rfl) ?_
  refine e_aload_n (pc := 4) C dX11_init_4 0 rfl rfl ?_
  refine e_new (pc := 5) (ci := 8) C dX11_init_5 (by decide) g175 g176 g147 (Nat.le_of_ble_eq_true rfl) (Nat.le_of_ble_eq_true rfl) ?_
  obtain ⟨x1, ex1, hf⟩ := nn_e hf
  refine e_topr ex1 ?_
  obtain ⟨h2, eh2, hf⟩ := nn_e hf
  refine e_hp eh2 ?_
  have tx1 : m_t h2 x1 = .inl 8 := by rw [eh2, ex1]; simp [m_t, m_new, m_n, va_up]
  refine e_dup (pc := 8) C dX11_init_8 rfl ?_
  obtain ⟨h3, y4, hf⟩ := ob_e hf
  refine e_callINv (pc := 9) (st := [.ref x1, .ref v0]) C (ct_X8_init y4) dX11_init_9 g177 g178 g147 g179 rfl hd_X8_init rfl ⟨Nat.le_of_ble_eq_true rfl, Nat.le_of_ble_eq_true rfl⟩ ⟨Nat.le_of_ble_eq_true rfl, Nat.le_of_ble_eq_true rfl⟩ rfl (Nat.le_of_ble_eq_true rfl) ?_
  obtain ⟨t5, hf⟩ := ck_e hf
  refine e_putrF (pc := 12) (x := some x1) 11 0 C hin dX11_init_12 (by decide) (by decide) g573 rfl rfl rfl rfl rfl t5 ?_
  obtain ⟨h6, eh6, hf⟩ := nn_e hf
  refine e_hp eh6 ?_
  have uh6 : m_t h6 = m_t h3 := by rw [eh6]; exact rfl
  refine e_aload_n (pc := 15) C dX11_init_15 0 rfl rfl ?_
  refine e_new (pc := 16) (ci := 10) C dX11_init_16 (by decide) g221 g222 g148 (Nat.le_of_ble_eq_true rfl) (Nat.le_of_ble_eq_true rfl) ?_
  obtain ⟨x7, ex7, hf⟩ := nn_e hf
  refine e_topr ex7 ?_
  obtain ⟨h8, eh8, hf⟩ := nn_e hf
  refine e_hp eh8 ?_
  have tx7 : m_t h8 x7 = .inl 10 := by rw [eh8, ex7]; simp [m_t, m_new, m_n, va_up]
  refine e_dup (pc := 19) C dX11_init_19 rfl ?_
  refine e_aload_n (pc := 20) C dX11_init_20 0 rfl rfl ?_
  obtain ⟨t9, hf⟩ := ck_e hf
  refine e_getr (pc := 21) 11 0 C dX11_init_21 (by decide) (by decide) g573 rfl t9 ?_
  obtain ⟨b10, eb10, hf⟩ := ob_e hf
  refine e_rf eb10 ?_
  obtain ⟨h11, y12, hf⟩ := ob_e hf
  refine e_callIv (pc := 24) (st := [.ref x7, .ref v0]) C (ct_X10_init y12) dX11_init_24 g223 g224 g148 g225 rfl hd_X10_init rfl ⟨Nat.le_of_ble_eq_true rfl, Nat.le_of_ble_eq_true rfl⟩ ⟨Nat.le_of_ble_eq_true rfl, Nat.le_of_ble_eq_true rfl⟩ rfl (Nat.le_of_ble_eq_true rfl) ?_
  obtain ⟨t13, hf⟩ := ck_e hf
  refine e_putrF (pc := 27) (x := some x7) 11 1 C hin dX11_init_27 (by decide) (by decide) g574 rfl rfl rfl rfl rfl t13 ?_
  obtain ⟨h14, eh14, hf⟩ := nn_e hf
  refine e_hp eh14 ?_
  have uh14 : m_t h14 = m_t h11 := by rw [eh14]; exact rfl
  refine e_aload_n (pc := 30) C dX11_init_30 0 rfl rfl ?_
  refine e_new (pc := 31) (ci := 3) C dX11_init_31 (by decide) g234 g235 g149 (Nat.le_of_ble_eq_true rfl) (Nat.le_of_ble_eq_true rfl) ?_
  obtain ⟨x15, ex15, hf⟩ := nn_e hf
  refine e_topr ex15 ?_
  obtain ⟨h16, eh16, hf⟩ := nn_e hf
  refine e_hp eh16 ?_
  have tx15 : m_t h16 x15 = .inl 3 := by rw [eh16, ex15]; simp [m_t, m_new, m_n, va_up]
  refine e_dup (pc := 34) C dX11_init_34 rfl ?_
  refine e_aload_n (pc := 35) C dX11_init_35 0 rfl rfl ?_
  obtain ⟨t17, hf⟩ := ck_e hf
  refine e_getr (pc := 36) 11 0 C dX11_init_36 (by decide) (by decide) g573 rfl t17 ?_
  obtain ⟨b18, eb18, hf⟩ := ob_e hf
  refine e_rf eb18 ?_
  obtain ⟨h19, y20, hf⟩ := ob_e hf
  refine e_callIv (pc := 39) (st := [.ref x15, .ref v0]) C (ct_X3_init y20) dX11_init_39 g236 g237 g149 g238 rfl hd_X3_init rfl ⟨Nat.le_of_ble_eq_true rfl, Nat.le_of_ble_eq_true rfl⟩ ⟨Nat.le_of_ble_eq_true rfl, Nat.le_of_ble_eq_true rfl⟩ rfl (Nat.le_of_ble_eq_true rfl) ?_
  obtain ⟨t21, hf⟩ := ck_e hf
  refine e_putrF (pc := 42) (x := some x15) 11 2 C hin dX11_init_42 (by decide) (by decide) g575 rfl rfl rfl rfl rfl t21 ?_
  obtain ⟨h22, eh22, hf⟩ := nn_e hf
  refine e_hp eh22 ?_
  have uh22 : m_t h22 = m_t h19 := by rw [eh22]; exact rfl
  refine e_aload_n (pc := 45) C dX11_init_45 0 rfl rfl ?_
  refine e_bipush (v := (6 : Int32)) (pc := 46) C dX11_init_46 (by decide) ?_
  refine e_anew (pc := 48) (t0 := 5) (N := 6) C dX11_init_48 rfl g253 C.2.2.2.2.1.2.2.1.2.1 (by decide) (by decide) (by decide) (Nat.le_of_ble_eq_true rfl) (Nat.le_of_ble_eq_true rfl) ?_
  obtain ⟨x23, ex23, hf⟩ := nn_e hf
  refine e_topr ex23 ?_
  obtain ⟨h24, eh24, hf⟩ := nn_e hf
  refine e_hp eh24 ?_
  obtain ⟨t25, hf⟩ := ck_e hf
  refine e_putrF (pc := 51) (x := some x23) 11 3 C hin dX11_init_51 (by decide) (by decide) g576 rfl rfl rfl rfl rfl t25 ?_
  obtain ⟨h26, eh26, hf⟩ := nn_e hf
  refine e_hp eh26 ?_
  have uh26 : m_t h26 = m_t h24 := by rw [eh26]; exact rfl
  refine e_aload_n (pc := 54) C dX11_init_54 0 rfl rfl ?_
  refine e_iconst (v := (0 : Int32)) (pc := 55) C dX11_init_55 (by decide) ?_
  refine e_puti (pc := 56) 11 4 C dX11_init_56 (by decide) (by decide) g577 rfl rfl rfl rfl (e_mt uh26 t25) ?_
  obtain ⟨h27, eh27, hf⟩ := nn_e hf
  refine e_hp eh27 ?_
  have uh27 : m_t h27 = m_t h24 := by rw [eh27]; exact uh26
  refine e_aload_n (pc := 59) C dX11_init_59 0 rfl rfl ?_
  refine e_new (pc := 60) (ci := 6) C dX11_init_60 (by decide) g255 g256 g150 (Nat.le_of_ble_eq_true rfl) (Nat.le_of_ble_eq_true rfl) ?_
  obtain ⟨x28, ex28, hf⟩ := nn_e hf
  refine e_topr ex28 ?_
  obtain ⟨h29, eh29, hf⟩ := nn_e hf
  refine e_hp eh29 ?_
  have tx28 : m_t h29 x28 = .inl 6 := by rw [eh29, ex28]; simp [m_t, m_new, m_n, va_up]
  refine e_dup (pc := 63) C dX11_init_63 rfl ?_
  refine e_new (pc := 64) (ci := 0) C dX11_init_64 (by decide) g257 g258 g151 (Nat.le_of_ble_eq_true rfl) (Nat.le_of_ble_eq_true rfl) ?_
  obtain ⟨x30, ex30, hf⟩ := nn_e hf
  refine e_topr ex30 ?_
  obtain ⟨h31, eh31, hf⟩ := nn_e hf
  refine e_hp eh31 ?_
  have tx30 : m_t h31 x30 = .inl 0 := by rw [eh31, ex30]; simp [m_t, m_new, m_n, va_up]
  refine e_dup (pc := 67) C dX11_init_67 rfl ?_
  refine e_new (pc := 68) (ci := 9) C dX11_init_68 (by decide) g259 g260 g152 (Nat.le_of_ble_eq_true rfl) (Nat.le_of_ble_eq_true rfl) ?_
  obtain ⟨x32, ex32, hf⟩ := nn_e hf
  refine e_topr ex32 ?_
  obtain ⟨h33, eh33, hf⟩ := nn_e hf
  refine e_hp eh33 ?_
  have tx32 : m_t h33 x32 = .inl 9 := by rw [eh33, ex32]; simp [m_t, m_new, m_n, va_up]
  refine e_dup (pc := 71) C dX11_init_71 rfl ?_
  obtain ⟨h34, y35, hf⟩ := ob_e hf
  refine e_callIv (pc := 72) (st := [.ref x32, .ref x30, .ref x30, .ref x28, .ref x28, .ref v0]) C (ct_X9_init y35) dX11_init_72 g261 g262 g152 g263 rfl hd_X9_init rfl ⟨Nat.le_of_ble_eq_true rfl, Nat.le_of_ble_eq_true rfl⟩ ⟨Nat.le_of_ble_eq_true rfl, Nat.le_of_ble_eq_true rfl⟩ rfl (Nat.le_of_ble_eq_true rfl) ?_
  obtain ⟨h36, y37, hf⟩ := ob_e hf
  refine e_callIv (pc := 75) (st := [.ref x30, .ref x28, .ref x28, .ref v0]) C (ct_X0_init y37) dX11_init_75 g389 g390 g151 g391 rfl hd_X0_init rfl ⟨Nat.le_of_ble_eq_true rfl, Nat.le_of_ble_eq_true rfl⟩ ⟨Nat.le_of_ble_eq_true rfl, Nat.le_of_ble_eq_true rfl⟩ rfl (Nat.le_of_ble_eq_true rfl) ?_
  obtain ⟨h38, y39, hf⟩ := ob_e hf
  refine e_callIv (pc := 78) (st := [.ref x28, .ref v0]) C (ct_X6_init y39) dX11_init_78 g453 g454 g150 g455 rfl hd_X6_init rfl ⟨Nat.le_of_ble_eq_true rfl, Nat.le_of_ble_eq_true rfl⟩ ⟨Nat.le_of_ble_eq_true rfl, Nat.le_of_ble_eq_true rfl⟩ rfl (Nat.le_of_ble_eq_true rfl) ?_
  obtain ⟨t40, hf⟩ := ck_e hf
  refine e_putrF (pc := 81) (x := some x28) 11 5 C hin dX11_init_81 (by decide) (by decide) g578 rfl rfl rfl rfl rfl t40 ?_
  obtain ⟨h41, eh41, hf⟩ := nn_e hf
  refine e_hp eh41 ?_
  have uh41 : m_t h41 = m_t h38 := by rw [eh41]; exact rfl
  refine e_aload_n (pc := 84) C dX11_init_84 0 rfl rfl ?_
  refine e_iconst (v := (4 : Int32)) (pc := 85) C dX11_init_85 (by decide) ?_
  refine e_anew (pc := 86) (t0 := 6) (N := 4) C dX11_init_86 rfl g255 C.2.2.2.2.1.2.2.1.2.2 (by decide) (by decide) (by decide) (Nat.le_of_ble_eq_true rfl) (Nat.le_of_ble_eq_true rfl) ?_
  obtain ⟨x42, ex42, hf⟩ := nn_e hf
  refine e_topr ex42 ?_
  obtain ⟨h43, eh43, hf⟩ := nn_e hf
  refine e_hp eh43 ?_
  obtain ⟨t44, hf⟩ := ck_e hf
  refine e_putrF (pc := 89) (x := some x42) 11 6 C hin dX11_init_89 (by decide) (by decide) g579 rfl rfl rfl rfl rfl t44 ?_
  obtain ⟨h45, eh45, hf⟩ := nn_e hf
  refine e_hp eh45 ?_
  have uh45 : m_t h45 = m_t h43 := by rw [eh45]; exact rfl
  refine e_aload_n (pc := 92) C dX11_init_92 0 rfl rfl ?_
  refine e_new (pc := 93) (ci := 0) C dX11_init_93 (by decide) g257 g258 g151 (Nat.le_of_ble_eq_true rfl) (Nat.le_of_ble_eq_true rfl) ?_
  obtain ⟨x46, ex46, hf⟩ := nn_e hf
  refine e_topr ex46 ?_
  obtain ⟨h47, eh47, hf⟩ := nn_e hf
  refine e_hp eh47 ?_
  have tx46 : m_t h47 x46 = .inl 0 := by rw [eh47, ex46]; simp [m_t, m_new, m_n, va_up]
  refine e_dup (pc := 96) C dX11_init_96 rfl ?_
  refine e_aload_n (pc := 97) C dX11_init_97 0 rfl rfl ?_
  obtain ⟨t48, hf⟩ := ck_e hf
  refine e_getr (pc := 98) 11 5 C dX11_init_98 (by decide) (by decide) g578 rfl t48 ?_
  obtain ⟨b49, eb49, hf⟩ := ob_e hf
  refine e_rf eb49 ?_
  obtain ⟨t50, hf⟩ := ck_e hf
  refine e_getrN (pc := 101) 6 0 C dX11_init_101 (by decide) (by decide) g458 rfl t50 ?_
  obtain ⟨b51, eb51, hf⟩ := ob_e hf
  refine e_rf eb51 ?_
  obtain ⟨t52, hf⟩ := ck_e hf
  refine e_getrN (pc := 104) 0 0 C dX11_init_104 (by decide) (by decide) g394 rfl t52 ?_
  obtain ⟨b53, eb53, hf⟩ := ob_e hf
  refine e_rf eb53 ?_
  obtain ⟨h54, y55, hf⟩ := ob_e hf
  refine e_callIv (pc := 107) (st := [.ref x46, .ref v0]) C (ct_X0_init y55) dX11_init_107 g389 g390 g151 g391 rfl hd_X0_init rfl ⟨Nat.le_of_ble_eq_true rfl, Nat.le_of_ble_eq_true rfl⟩ ⟨Nat.le_of_ble_eq_true rfl, Nat.le_of_ble_eq_true rfl⟩ rfl (Nat.le_of_ble_eq_true rfl) ?_
  obtain ⟨t56, hf⟩ := ck_e hf
  refine e_putrF (pc := 110) (x := some x46) 11 7 C hin dX11_init_110 (by decide) (by decide) g580 rfl rfl rfl rfl rfl t56 ?_
  obtain ⟨h57, eh57, hf⟩ := nn_e hf
  refine e_hp eh57 ?_
  have uh57 : m_t h57 = m_t h54 := by rw [eh57]; exact rfl
  refine e_aload_n (pc := 113) C dX11_init_113 0 rfl rfl ?_
  refine e_new (pc := 114) (ci := 7) C dX11_init_114 (by decide) g489 g490 g154 (Nat.le_of_ble_eq_true rfl) (Nat.le_of_ble_eq_true rfl) ?_
  obtain ⟨x58, ex58, hf⟩ := nn_e hf
  refine e_topr ex58 ?_
  obtain ⟨h59, eh59, hf⟩ := nn_e hf
  refine e_hp eh59 ?_
  have tx58 : m_t h59 x58 = .inl 7 := by rw [eh59, ex58]; simp [m_t, m_new, m_n, va_up]
  refine e_dup (pc := 117) C dX11_init_117 rfl ?_
  obtain ⟨h60, y61, hf⟩ := ob_e hf
  refine e_callINv (pc := 118) (st := [.ref x58, .ref v0]) C (ct_X7_init y61) dX11_init_118 g491 g492 g154 g493 rfl hd_X7_init rfl ⟨Nat.le_of_ble_eq_true rfl, Nat.le_of_ble_eq_true rfl⟩ ⟨Nat.le_of_ble_eq_true rfl, Nat.le_of_ble_eq_true rfl⟩ rfl (Nat.le_of_ble_eq_true rfl) ?_
  obtain ⟨t62, hf⟩ := ck_e hf
  refine e_putrF (pc := 121) (x := some x58) 11 8 C hin dX11_init_121 (by decide) (by decide) g581 rfl rfl rfl rfl rfl t62 ?_
  obtain ⟨h63, eh63, hf⟩ := nn_e hf
  refine e_hp eh63 ?_
  have uh63 : m_t h63 = m_t h60 := by rw [eh63]; exact rfl
  refine e_aload_n (pc := 124) C dX11_init_124 0 rfl rfl ?_
  refine e_new (pc := 125) (ci := 4) C dX11_init_125 (by decide) g520 g521 g155 (Nat.le_of_ble_eq_true rfl) (Nat.le_of_ble_eq_true rfl) ?_
  obtain ⟨x64, ex64, hf⟩ := nn_e hf
  refine e_topr ex64 ?_
  obtain ⟨h65, eh65, hf⟩ := nn_e hf
  refine e_hp eh65 ?_
  have tx64 : m_t h65 x64 = .inl 4 := by rw [eh65, ex64]; simp [m_t, m_new, m_n, va_up]
  refine e_dup (pc := 128) C dX11_init_128 rfl ?_
  obtain ⟨h66, y67, hf⟩ := ob_e hf
  refine e_callINv (pc := 129) (st := [.ref x64, .ref v0]) C (ct_X4_init y67) dX11_init_129 g522 g523 g155 g524 rfl hd_X4_init rfl ⟨Nat.le_of_ble_eq_true rfl, Nat.le_of_ble_eq_true rfl⟩ ⟨Nat.le_of_ble_eq_true rfl, Nat.le_of_ble_eq_true rfl⟩ rfl (Nat.le_of_ble_eq_true rfl) ?_
  obtain ⟨t68, hf⟩ := ck_e hf
  refine e_putrF (pc := 132) (x := some x64) 11 9 C hin dX11_init_132 (by decide) (by decide) g582 rfl rfl rfl rfl rfl t68 ?_
  obtain ⟨h69, eh69, hf⟩ := nn_e hf
  refine e_hp eh69 ?_
  have uh69 : m_t h69 = m_t h66 := by rw [eh69]; exact rfl
  refine e_aload_n (pc := 135) C dX11_init_135 0 rfl rfl ?_
  refine e_new (pc := 136) (ci := 1) C dX11_init_136 (by decide) g554 g555 g156 (Nat.le_of_ble_eq_true rfl) (Nat.le_of_ble_eq_true rfl) ?_
  obtain ⟨x70, ex70, hf⟩ := nn_e hf
  refine e_topr ex70 ?_
  obtain ⟨h71, eh71, hf⟩ := nn_e hf
  refine e_hp eh71 ?_
  have tx70 : m_t h71 x70 = .inl 1 := by rw [eh71, ex70]; simp [m_t, m_new, m_n, va_up]
  refine e_dup (pc := 139) C dX11_init_139 rfl ?_
  obtain ⟨h72, y73, hf⟩ := ob_e hf
  refine e_callINv (pc := 140) (st := [.ref x70, .ref v0]) C (ct_X1_init y73) dX11_init_140 g556 g557 g156 g558 rfl hd_X1_init rfl ⟨Nat.le_of_ble_eq_true rfl, Nat.le_of_ble_eq_true rfl⟩ ⟨Nat.le_of_ble_eq_true rfl, Nat.le_of_ble_eq_true rfl⟩ rfl (Nat.le_of_ble_eq_true rfl) ?_
  obtain ⟨t74, hf⟩ := ck_e hf
  refine e_putrF (pc := 143) (x := some x70) 11 10 C hin dX11_init_143 (by decide) (by decide) g583 rfl rfl rfl rfl rfl t74 ?_
  obtain ⟨h75, eh75, hf⟩ := nn_e hf
  refine e_hp eh75 ?_
  have uh75 : m_t h75 = m_t h72 := by rw [eh75]; exact rfl
  refine e_aload_n (pc := 146) C dX11_init_146 0 rfl rfl ?_
  refine e_bipush (v := (81 : Int32)) (pc := 147) C dX11_init_147 (by decide) ?_
  refine e_newi (pc := 149) C dX11_init_149 g220 (by decide) (N := 81) (by decide) (by decide) (Nat.le_of_ble_eq_true rfl) (Nat.le_of_ble_eq_true rfl) ?_
  obtain ⟨x76, ex76, hf⟩ := nn_e hf
  refine e_topr ex76 ?_
  obtain ⟨h77, eh77, hf⟩ := nn_e hf
  refine e_hp eh77 ?_
  obtain ⟨t78, hf⟩ := ck_e hf
  refine e_putrF (pc := 151) (x := some x76) 11 11 C hin dX11_init_151 (by decide) (by decide) g584 rfl rfl rfl rfl rfl t78 ?_
  obtain ⟨h79, eh79, hf⟩ := nn_e hf
  refine e_hp eh79 ?_
  have uh79 : m_t h79 = m_t h77 := by rw [eh79]; exact rfl
  refine e_aload_n (pc := 154) C dX11_init_154 0 rfl rfl ?_
  refine e_iconst (v := (0 : Int32)) (pc := 155) C dX11_init_155 (by decide) ?_
  refine e_puti (pc := 156) 11 12 C dX11_init_156 (by decide) (by decide) g585 rfl rfl rfl rfl (e_mt uh79 t78) ?_
  obtain ⟨h80, eh80, hf⟩ := nn_e hf
  refine e_hp eh80 ?_
  have uh80 : m_t h80 = m_t h77 := by rw [eh80]; exact uh79
  obtain rfl := so_e hf
  exact e_vret (pc := 159) C hr dX11_init_159 (Nat.le_of_ble_eq_true rfl) (Nat.le_of_ble_eq_true rfl)
theorem dX11_feed_0 : decode cX11_feed 0 = .ok (.aload_n 0, 1) := by decide +kernel
theorem dX11_feed_1 : decode cX11_feed 1 = .ok (.getfield 10, 3) := by decide +kernel
theorem dX11_feed_4 : decode cX11_feed 4 = .ok (.getfield 102, 3) := by decide +kernel
theorem dX11_feed_7 : decode cX11_feed 7 = .ok (.bipush 20, 2) := by decide +kernel
theorem dX11_feed_9 : decode cX11_feed 9 = .ok (.iadd, 1) := by decide +kernel
theorem dX11_feed_10 : decode cX11_feed 10 = .ok (.sipush 400, 3) := by decide +kernel
theorem dX11_feed_13 : decode cX11_feed 13 = .ok (.if_icmp .le 5, 3) := by decide +kernel
theorem dX11_feed_16 : decode cX11_feed 16 = .ok (.iconst (-1), 1) := by decide +kernel
theorem dX11_feed_17 : decode cX11_feed 17 = .ok (.ireturn, 1) := by decide +kernel
theorem dX11_feed_18 : decode cX11_feed 18 = .ok (.aload_n 0, 1) := by decide +kernel
theorem dX11_feed_19 : decode cX11_feed 19 = .ok (.getfield 10, 3) := by decide +kernel
theorem dX11_feed_22 : decode cX11_feed 22 = .ok (.iload_n 1, 1) := by decide +kernel
theorem dX11_feed_23 : decode cX11_feed 23 = .ok (.invokevirtual 105, 3) := by decide +kernel
theorem dX11_feed_26 : decode cX11_feed 26 = .ok (.aload_n 0, 1) := by decide +kernel
theorem dX11_feed_27 : decode cX11_feed 27 = .ok (.getfield 10, 3) := by decide +kernel
theorem dX11_feed_30 : decode cX11_feed 30 = .ok (.iload_n 2, 1) := by decide +kernel
theorem dX11_feed_31 : decode cX11_feed 31 = .ok (.invokevirtual 105, 3) := by decide +kernel
theorem dX11_feed_34 : decode cX11_feed 34 = .ok (.aload_n 0, 1) := by decide +kernel
theorem dX11_feed_35 : decode cX11_feed 35 = .ok (.getfield 10, 3) := by decide +kernel
theorem dX11_feed_38 : decode cX11_feed 38 = .ok (.iload_n 3, 1) := by decide +kernel
theorem dX11_feed_39 : decode cX11_feed 39 = .ok (.invokevirtual 105, 3) := by decide +kernel
theorem dX11_feed_42 : decode cX11_feed 42 = .ok (.aload_n 0, 1) := by decide +kernel
theorem dX11_feed_43 : decode cX11_feed 43 = .ok (.getfield 10, 3) := by decide +kernel
theorem dX11_feed_46 : decode cX11_feed 46 = .ok (.iload 4, 2) := by decide +kernel
theorem dX11_feed_48 : decode cX11_feed 48 = .ok (.invokevirtual 105, 3) := by decide +kernel
theorem dX11_feed_51 : decode cX11_feed 51 = .ok (.aload_n 0, 1) := by decide +kernel
theorem dX11_feed_52 : decode cX11_feed 52 = .ok (.getfield 10, 3) := by decide +kernel
theorem dX11_feed_55 : decode cX11_feed 55 = .ok (.iload 5, 2) := by decide +kernel
theorem dX11_feed_57 : decode cX11_feed 57 = .ok (.invokevirtual 105, 3) := by decide +kernel
theorem dX11_feed_60 : decode cX11_feed 60 = .ok (.aload_n 0, 1) := by decide +kernel
theorem dX11_feed_61 : decode cX11_feed 61 = .ok (.getfield 10, 3) := by decide +kernel
theorem dX11_feed_64 : decode cX11_feed 64 = .ok (.getfield 102, 3) := by decide +kernel
theorem dX11_feed_67 : decode cX11_feed 67 = .ok (.ireturn, 1) := by decide +kernel
def f_X11_feed (G : GG) (v0 : Nat) (v1 : Int32) (v2 : Int32) (v3 : Int32) (v4 : Int32) (v5 : Int32) (h : AH) : Option (Int32 × AH) :=
ck (m_t h v0 = .inl 11) <|
ob (m_r h v0 0) fun b2 =>
ck (m_t h b2 = .inl 8) <|
if ((m_i h b2 1) + (20 : Int32)) ≤ (400 : Int32) then (ob (m_r h v0 0) fun b5 =>
ck (m_t h b5 = .inl 8) <|
ob (f_X8_append G b5 v1 h) fun h7 =>
ck (m_t h7 v0 = .inl 11) <|
ob (m_r h7 v0 0) fun b10 =>
ck (m_t h7 b10 = .inl 8) <|
ob (f_X8_append G b10 v2 h7) fun h12 =>
ck (m_t h12 v0 = .inl 11) <|
ob (m_r h12 v0 0) fun b15 =>
ck (m_t h12 b15 = .inl 8) <|
ob (f_X8_append G b15 v3 h12) fun h17 =>
ck (m_t h17 v0 = .inl 11) <|
ob (m_r h17 v0 0) fun b20 =>
ck (m_t h17 b20 = .inl 8) <|
ob (f_X8_append G b20 v4 h17) fun h22 =>
ck (m_t h22 v0 = .inl 11) <|
ob (m_r h22 v0 0) fun b25 =>
ck (m_t h22 b25 = .inl 8) <|
ob (f_X8_append G b25 v5 h22) fun h27 =>
ck (m_t h27 v0 = .inl 11) <|
ob (m_r h27 v0 0) fun b30 =>
ck (m_t h27 b30 = .inl 8) <|
some (m_i h27 b30 1, h27)) else
some ((-1 : Int32), h)
set_option maxHeartbeats 4000000 in
set_option maxRecDepth 100000 in
theorem ct_X11_feed {G : GG} {l : Launch} {v0 : Nat} {v1 : Int32} {v2 : Int32} {v3 : Int32} {v4 : Int32} {v5 : Int32} {h : AH} {y : Int32 × AH} (hf : f_X11_feed G v0 v1 v2 v3 v4 v5 h = some y) : Ct G l yX11_feed cX11_feed 6 (some .int) 1 22 0 0 [.ref v0, .int v1, .int v2, .int v3, .int v4, .int v5] h (some (.int y.1), y.2) := by
  refine ct_of (by decide) (Nat.le_of_ble_eq_true rfl) ?_
  intro p e s m args below meth c C hm hr hin
  have C : Cx G cX11_feed RX11 p s m args meth c := C
  refine e_lv (lv2 := [(0, .ref v0), (1, .int v1), (2, .int v2), (3, .int v3), (4, .int v4), (5, .int v5)]) [0, 1, 2, 3, 4, 5] rfl ?_
  unfold f_X11_feed at hf
  refine e_aload_n (pc := 0) C dX11_feed_0 0 rfl rfl ?_
  obtain ⟨t1, hf⟩ := ck_e hf
  refine e_getr (pc := 1) 11 0 C dX11_feed_1 (by decide) (by decide) g573 rfl t1 ?_
  obtain ⟨b2, eb2, hf⟩ := ob_e hf
  refine e_rf eb2 ?_
  obtain ⟨t3, hf⟩ := ck_e hf
  refine e_getiN (pc := 4) 8 1 C dX11_feed_4 (by decide) (by decide) g183 rfl t3 ?_
  refine e_bipush (v := (20 : Int32)) (pc := 7) C dX11_feed_7 (by decide) ?_
  refine e_iadd (pc := 9) C dX11_feed_9 ?_
  refine e_sipush (v := (400 : Int32)) (pc := 10) C dX11_feed_10 (by decide) ?_
  rcases it_e hf with ⟨c4, hf⟩ | ⟨c4, hf⟩
  · refine e_icmp_le (pc := 13) (tgt := 18) C dX11_feed_13 (by decide) (fun _ => ?_) (fun q => absurd c4 q)
    refine e_aload_n (pc := 18) C dX11_feed_18 0 rfl rfl ?_
    refine e_getr (pc := 19) 11 0 C dX11_feed_19 (by decide) (by decide) g573 rfl t1 ?_
    obtain ⟨b5, eb5, hf⟩ := ob_e hf
    refine e_rf eb5 ?_
    refine e_iload_n (pc := 22) C dX11_feed_22 1 rfl rfl ?_
    obtain ⟨t6, hf⟩ := ck_e hf
    obtain ⟨h7, y8, hf⟩ := ob_e hf
    refine e_callVv (pc := 23) (st := []) 8 C (ct_X8_append y8) dX11_feed_23 (by decide) t6 g617 g618 g619 g147 g620 hd_X8_append rfl ⟨Nat.le_of_ble_eq_true rfl, Nat.le_of_ble_eq_true rfl⟩ ⟨Nat.le_of_ble_eq_true rfl, Nat.le_of_ble_eq_true rfl⟩ rfl (Nat.le_of_ble_eq_true rfl) ?_
    refine e_aload_n (pc := 26) C dX11_feed_26 0 rfl rfl ?_
    obtain ⟨t9, hf⟩ := ck_e hf
    refine e_getr (pc := 27) 11 0 C dX11_feed_27 (by decide) (by decide) g573 rfl t9 ?_
    obtain ⟨b10, eb10, hf⟩ := ob_e hf
    refine e_rf eb10 ?_
    refine e_iload_n (pc := 30) C dX11_feed_30 2 rfl rfl ?_
    obtain ⟨t11, hf⟩ := ck_e hf
    obtain ⟨h12, y13, hf⟩ := ob_e hf
    refine e_callVv (pc := 31) (st := []) 8 C (ct_X8_append y13) dX11_feed_31 (by decide) t11 g617 g618 g619 g147 g620 hd_X8_append rfl ⟨Nat.le_of_ble_eq_true rfl, Nat.le_of_ble_eq_true rfl⟩ ⟨Nat.le_of_ble_eq_true rfl, Nat.le_of_ble_eq_true rfl⟩ rfl (Nat.le_of_ble_eq_true rfl) ?_
    refine e_aload_n (pc := 34) C dX11_feed_34 0 rfl rfl ?_
    obtain ⟨t14, hf⟩ := ck_e hf
    refine e_getr (pc := 35) 11 0 C dX11_feed_35 (by decide) (by decide) g573 rfl t14 ?_
    obtain ⟨b15, eb15, hf⟩ := ob_e hf
    refine e_rf eb15 ?_
    refine e_iload_n (pc := 38) C dX11_feed_38 3 rfl rfl ?_
    obtain ⟨t16, hf⟩ := ck_e hf
    obtain ⟨h17, y18, hf⟩ := ob_e hf
    refine e_callVv (pc := 39) (st := []) 8 C (ct_X8_append y18) dX11_feed_39 (by decide) t16 g617 g618 g619 g147 g620 hd_X8_append rfl ⟨Nat.le_of_ble_eq_true rfl, Nat.le_of_ble_eq_true rfl⟩ ⟨Nat.le_of_ble_eq_true rfl, Nat.le_of_ble_eq_true rfl⟩ rfl (Nat.le_of_ble_eq_true rfl) ?_
    refine e_aload_n (pc := 42) C dX11_feed_42 0 rfl rfl ?_
    obtain ⟨t19, hf⟩ := ck_e hf
    refine e_getr (pc := 43) 11 0 C dX11_feed_43 (by decide) (by decide) g573 rfl t19 ?_
    obtain ⟨b20, eb20, hf⟩ := ob_e hf
    refine e_rf eb20 ?_
    refine e_iload (pc := 46) C dX11_feed_46 4 rfl ?_
    obtain ⟨t21, hf⟩ := ck_e hf
    obtain ⟨h22, y23, hf⟩ := ob_e hf
    refine e_callVv (pc := 48) (st := []) 8 C (ct_X8_append y23) dX11_feed_48 (by decide) t21 g617 g618 g619 g147 g620 hd_X8_append rfl ⟨Nat.le_of_ble_eq_true rfl, Nat.le_of_ble_eq_true rfl⟩ ⟨Nat.le_of_ble_eq_true rfl, Nat.le_of_ble_eq_true rfl⟩ rfl (Nat.le_of_ble_eq_true rfl) ?_
    refine e_aload_n (pc := 51) C dX11_feed_51 0 rfl rfl ?_
    obtain ⟨t24, hf⟩ := ck_e hf
    refine e_getr (pc := 52) 11 0 C dX11_feed_52 (by decide) (by decide) g573 rfl t24 ?_
    obtain ⟨b25, eb25, hf⟩ := ob_e hf
    refine e_rf eb25 ?_
    refine e_iload (pc := 55) C dX11_feed_55 5 rfl ?_
    obtain ⟨t26, hf⟩ := ck_e hf
    obtain ⟨h27, y28, hf⟩ := ob_e hf
    refine e_callVv (pc := 57) (st := []) 8 C (ct_X8_append y28) dX11_feed_57 (by decide) t26 g617 g618 g619 g147 g620 hd_X8_append rfl ⟨Nat.le_of_ble_eq_true rfl, Nat.le_of_ble_eq_true rfl⟩ ⟨Nat.le_of_ble_eq_true rfl, Nat.le_of_ble_eq_true rfl⟩ rfl (Nat.le_of_ble_eq_true rfl) ?_
    refine e_aload_n (pc := 60) C dX11_feed_60 0 rfl rfl ?_
    obtain ⟨t29, hf⟩ := ck_e hf
    refine e_getr (pc := 61) 11 0 C dX11_feed_61 (by decide) (by decide) g573 rfl t29 ?_
    obtain ⟨b30, eb30, hf⟩ := ob_e hf
    refine e_rf eb30 ?_
    obtain ⟨t31, hf⟩ := ck_e hf
    refine e_getiN (pc := 64) 8 1 C dX11_feed_64 (by decide) (by decide) g183 rfl t31 ?_
    obtain rfl := so_e hf
    exact e_iret (pc := 67) C hr dX11_feed_67 (Nat.le_of_ble_eq_true rfl) (Nat.le_of_ble_eq_true rfl)
  · refine e_icmp_le (pc := 13) (tgt := 18) C dX11_feed_13 (by decide) (fun q => absurd q c4) (fun _ => ?_)
    refine e_iconst (v := (-1 : Int32)) (pc := 16) C dX11_feed_16 (by decide) ?_
    obtain rfl := so_e hf
    exact e_iret (pc := 17) C hr dX11_feed_17 (Nat.le_of_ble_eq_true rfl) (Nat.le_of_ble_eq_true rfl)
theorem dX11_end_0 : decode cX11_end 0 = .ok (.iload_n 1, 1) := by decide +kernel
theorem dX11_end_1 : decode cX11_end 1 = .ok (.ifCond .lt 14, 3) := by decide +kernel
theorem dX11_end_4 : decode cX11_end 4 = .ok (.iload_n 1, 1) := by decide +kernel
theorem dX11_end_5 : decode cX11_end 5 = .ok (.aload_n 0, 1) := by decide +kernel
theorem dX11_end_6 : decode cX11_end 6 = .ok (.getfield 10, 3) := by decide +kernel
theorem dX11_end_9 : decode cX11_end 9 = .ok (.getfield 102, 3) := by decide +kernel
theorem dX11_end_12 : decode cX11_end 12 = .ok (.if_icmp .le 5, 3) := by decide +kernel
theorem dX11_end_15 : decode cX11_end 15 = .ok (.iconst (-1), 1) := by decide +kernel
theorem dX11_end_16 : decode cX11_end 16 = .ok (.ireturn, 1) := by decide +kernel
theorem dX11_end_17 : decode cX11_end 17 = .ok (.aload_n 0, 1) := by decide +kernel
theorem dX11_end_18 : decode cX11_end 18 = .ok (.getfield 10, 3) := by decide +kernel
theorem dX11_end_21 : decode cX11_end 21 = .ok (.iload_n 1, 1) := by decide +kernel
theorem dX11_end_22 : decode cX11_end 22 = .ok (.putfield 102, 3) := by decide +kernel
theorem dX11_end_25 : decode cX11_end 25 = .ok (.iload_n 1, 1) := by decide +kernel
theorem dX11_end_26 : decode cX11_end 26 = .ok (.ireturn, 1) := by decide +kernel
def f_X11_end (G : GG) (v0 : Nat) (v1 : Int32) (h : AH) : Option (Int32 × AH) :=
if v1 < 0 then (some ((-1 : Int32), h)) else
ck (m_t h v0 = .inl 11) <|
ob (m_r h v0 0) fun b3 =>
ck (m_t h b3 = .inl 8) <|
if v1 ≤ (m_i h b3 1) then (ob (m_r h v0 0) fun b6 =>
ck (m_t h b6 = .inl 8) <|
nn (m_si h b6 1 v1) fun h8 =>
some (v1, h8)) else
some ((-1 : Int32), h)
set_option maxHeartbeats 4000000 in
set_option maxRecDepth 100000 in
theorem ct_X11_end {G : GG} {l : Launch} {v0 : Nat} {v1 : Int32} {h : AH} {y : Int32 × AH} (hf : f_X11_end G v0 v1 h = some y) : Ct G l yX11_end cX11_end 2 (some .int) 0 0 0 0 [.ref v0, .int v1] h (some (.int y.1), y.2) := by
  refine ct_of (by decide) (Nat.le_of_ble_eq_true rfl) ?_
  intro p e s m args below meth c C hm hr hin
  have C : Cx G cX11_end RX11 p s m args meth c := C
  refine e_lv (lv2 := [(0, .ref v0), (1, .int v1)]) [0, 1] rfl ?_
  unfold f_X11_end at hf
  refine e_iload_n (pc := 0) C dX11_end_0 1 rfl rfl ?_
  rcases it_e hf with ⟨c1, hf⟩ | ⟨c1, hf⟩
  · refine e_if_lt (pc := 1) (tgt := 15) C dX11_end_1 (by decide) (fun _ => ?_) (fun q => absurd c1 q)
    refine e_iconst (v := (-1 : Int32)) (pc := 15) C dX11_end_15 (by decide) ?_
    obtain rfl := so_e hf
    exact e_iret (pc := 16) C hr dX11_end_16 (Nat.le_of_ble_eq_true rfl) (Nat.le_of_ble_eq_true rfl)
  · refine e_if_lt (pc := 1) (tgt := 15) C dX11_end_1 (by decide) (fun q => absurd q c1) (fun _ => ?_)
    refine e_iload_n (pc := 4) C dX11_end_4 1 rfl rfl ?_
    refine e_aload_n (pc := 5) C dX11_end_5 0 rfl rfl ?_
    obtain ⟨t2, hf⟩ := ck_e hf
    refine e_getr (pc := 6) 11 0 C dX11_end_6 (by decide) (by decide) g573 rfl t2 ?_
    obtain ⟨b3, eb3, hf⟩ := ob_e hf
    refine e_rf eb3 ?_
    obtain ⟨t4, hf⟩ := ck_e hf
    refine e_getiN (pc := 9) 8 1 C dX11_end_9 (by decide) (by decide) g183 rfl t4 ?_
    rcases it_e hf with ⟨c5, hf⟩ | ⟨c5, hf⟩
    · refine e_icmp_le (pc := 12) (tgt := 17) C dX11_end_12 (by decide) (fun _ => ?_) (fun q => absurd c5 q)
      refine e_aload_n (pc := 17) C dX11_end_17 0 rfl rfl ?_
      refine e_getr (pc := 18) 11 0 C dX11_end_18 (by decide) (by decide) g573 rfl t2 ?_
      obtain ⟨b6, eb6, hf⟩ := ob_e hf
      refine e_rf eb6 ?_
      refine e_iload_n (pc := 21) C dX11_end_21 1 rfl rfl ?_
      obtain ⟨t7, hf⟩ := ck_e hf
      refine e_putiN (pc := 22) 8 1 C dX11_end_22 (by decide) (by decide) g183 rfl rfl rfl rfl t7 ?_
      obtain ⟨h8, eh8, hf⟩ := nn_e hf
      refine e_hp eh8 ?_
      have uh8 : m_t h8 = m_t h := by rw [eh8]; exact rfl
      refine e_iload_n (pc := 25) C dX11_end_25 1 rfl rfl ?_
      obtain rfl := so_e hf
      exact e_iret (pc := 26) C hr dX11_end_26 (Nat.le_of_ble_eq_true rfl) (Nat.le_of_ble_eq_true rfl)
    · refine e_icmp_le (pc := 12) (tgt := 17) C dX11_end_12 (by decide) (fun q => absurd q c5) (fun _ => ?_)
      refine e_iconst (v := (-1 : Int32)) (pc := 15) C dX11_end_15 (by decide) ?_
      obtain rfl := so_e hf
      exact e_iret (pc := 16) C hr dX11_end_16 (Nat.le_of_ble_eq_true rfl) (Nat.le_of_ble_eq_true rfl)
theorem dX11_aMileOlder_0 : decode cX11_aMileOlder 0 = .ok (.iload_n 0, 1) := by decide +kernel
theorem dX11_aMileOlder_1 : decode cX11_aMileOlder 1 = .ok (.iconst 2, 1) := by decide +kernel
theorem dX11_aMileOlder_2 : decode cX11_aMileOlder 2 = .ok (.ishl, 1) := by decide +kernel
theorem dX11_aMileOlder_3 : decode cX11_aMileOlder 3 = .ok (.iload_n 0, 1) := by decide +kernel
theorem dX11_aMileOlder_4 : decode cX11_aMileOlder 4 = .ok (.iconst 3, 1) := by decide +kernel
theorem dX11_aMileOlder_5 : decode cX11_aMileOlder 5 = .ok (.iand, 1) := by decide +kernel
theorem dX11_aMileOlder_6 : decode cX11_aMileOlder 6 = .ok (.ior, 1) := by decide +kernel
theorem dX11_aMileOlder_7 : decode cX11_aMileOlder 7 = .ok (.sipush 16383, 3) := by decide +kernel
theorem dX11_aMileOlder_10 : decode cX11_aMileOlder 10 = .ok (.iand, 1) := by decide +kernel
theorem dX11_aMileOlder_11 : decode cX11_aMileOlder 11 = .ok (.ireturn, 1) := by decide +kernel
def f_X11_aMileOlder (G : GG) (v0 : Int32) (h : AH) : Option (Int32 × AH) :=
some (((v0 <<< ((2 : Int32) &&& 31)) ||| (v0 &&& (3 : Int32))) &&& (16383 : Int32), h)
set_option maxHeartbeats 4000000 in
set_option maxRecDepth 100000 in
theorem ct_X11_aMileOlder {G : GG} {l : Launch} {v0 : Int32} {h : AH} {y : Int32 × AH} (hf : f_X11_aMileOlder G v0 h = some y) : Ct G l yX11_aMileOlder cX11_aMileOlder 1 (some .int) 0 0 0 0 [.int v0] h (some (.int y.1), y.2) := by
  refine ct_of (by decide) (Nat.le_of_ble_eq_true rfl) ?_
  intro p e s m args below meth c C hm hr hin
  have C : Cx G cX11_aMileOlder RX11 p s m args meth c := C
  refine e_lv (lv2 := [(0, .int v0)]) [0] rfl ?_
  unfold f_X11_aMileOlder at hf
  refine e_iload_n (pc := 0) C dX11_aMileOlder_0 0 rfl rfl ?_
  refine e_iconst (v := (2 : Int32)) (pc := 1) C dX11_aMileOlder_1 (by decide) ?_
  refine e_ishl (pc := 2) C dX11_aMileOlder_2 ?_
  refine e_iload_n (pc := 3) C dX11_aMileOlder_3 0 rfl rfl ?_
  refine e_iconst (v := (3 : Int32)) (pc := 4) C dX11_aMileOlder_4 (by decide) ?_
  refine e_iand (pc := 5) C dX11_aMileOlder_5 ?_
  refine e_ior (pc := 6) C dX11_aMileOlder_6 ?_
  refine e_sipush (v := (16383 : Int32)) (pc := 7) C dX11_aMileOlder_7 (by decide) ?_
  refine e_iand (pc := 10) C dX11_aMileOlder_10 ?_
  obtain rfl := so_e hf
  exact e_iret (pc := 11) C hr dX11_aMileOlder_11 (Nat.le_of_ble_eq_true rfl) (Nat.le_of_ble_eq_true rfl)
theorem dX11_alwaysKnob_0 : decode cX11_alwaysKnob 0 = .ok (.iload_n 0, 1) := by decide +kernel
theorem dX11_alwaysKnob_1 : decode cX11_alwaysKnob 1 = .ok (.istore_n 1, 1) := by decide +kernel
theorem dX11_alwaysKnob_2 : decode cX11_alwaysKnob 2 = .ok (.iconst 0, 1) := by decide +kernel
theorem dX11_alwaysKnob_3 : decode cX11_alwaysKnob 3 = .ok (.istore_n 2, 1) := by decide +kernel
theorem dX11_alwaysKnob_4 : decode cX11_alwaysKnob 4 = .ok (.iload_n 2, 1) := by decide +kernel
theorem dX11_alwaysKnob_5 : decode cX11_alwaysKnob 5 = .ok (.bipush 6, 2) := by decide +kernel
theorem dX11_alwaysKnob_7 : decode cX11_alwaysKnob 7 = .ok (.if_icmp .ge 14, 3) := by decide +kernel
theorem dX11_alwaysKnob_10 : decode cX11_alwaysKnob 10 = .ok (.iload_n 1, 1) := by decide +kernel
theorem dX11_alwaysKnob_11 : decode cX11_alwaysKnob 11 = .ok (.invokestatic 399, 3) := by decide +kernel
theorem dX11_alwaysKnob_14 : decode cX11_alwaysKnob 14 = .ok (.istore_n 1, 1) := by decide +kernel
theorem dX11_alwaysKnob_15 : decode cX11_alwaysKnob 15 = .ok (.iinc 2 1, 3) := by decide +kernel
theorem dX11_alwaysKnob_18 : decode cX11_alwaysKnob 18 = .ok (.goto (-14), 3) := by decide +kernel
theorem dX11_alwaysKnob_21 : decode cX11_alwaysKnob 21 = .ok (.iload_n 1, 1) := by decide +kernel
theorem dX11_alwaysKnob_22 : decode cX11_alwaysKnob 22 = .ok (.ireturn, 1) := by decide +kernel
def F_X11_alwaysKnob_4 (G : GG) (self_4 : Int32 → Int32 → AH → Option (Int32 × AH)) (v1 : Int32) (v2 : Int32) (h : AH) : Option (Int32 × AH) :=
if (6 : Int32) ≤ v2 then (some (v1, h)) else
cb (f_X11_aMileOlder G v1 h) fun r4 h2 =>
nn (v2 + (1 : Int32)) fun x5 =>
self_4 r4 x5 h2
def f_X11_alwaysKnob (G : GG) (v0 : Int32) (h : AH) : Option (Int32 × AH) :=
lq2 (F_X11_alwaysKnob_4 G ) bN v0 (0 : Int32) h
set_option maxHeartbeats 4000000 in
set_option maxRecDepth 100000 in
theorem el_X11_alwaysKnob_4 {G : GG} {p : Program} {l : Launch} {e : Env} {s : State} {m : MethodId} {args : Array Value} {below : List Frame} {meth : Method} {c : Code} {y : Int32 × AH} (C : Cx G cX11_alwaysKnob RX11 p s m args meth c) (hm : c.maxLocals = 3) (hr : meth.sig.returnType = (some .int)) (hin : meth.name = yX11_alwaysKnob.name)  :
    ∀ (n : Nat) (v1 : Int32) (v2 : Int32) (h : AH), lq2 (F_X11_alwaysKnob_4 G) n v1 v2 h = some y → EE G p l e ({ frames := 1, cells := 0, slots := 0, locals := 20 } : Room) s m args below meth c (some (.int y.1), y.2) 0 0 4 [(1, .int v1), (2, .int v2)] [] h 0 0 := by
  intro n
  induction n with
  | zero => intro v1 v2 h hf; exact (no_e hf).elim
  | succ n ih_4 =>
    intro v1 v2 h hf
    have hf : F_X11_alwaysKnob_4 G (lq2 (F_X11_alwaysKnob_4 G) n) v1 v2 h = some y := hf
    generalize lq2 (F_X11_alwaysKnob_4 G) n = self_4 at hf ih_4
    unfold F_X11_alwaysKnob_4 at hf
    refine e_iload_n (pc := 4) C dX11_alwaysKnob_4 1 rfl rfl ?_
    refine e_bipush (v := (6 : Int32)) (pc := 5) C dX11_alwaysKnob_5 (by decide) ?_
    rcases it_e hf with ⟨c1, hf⟩ | ⟨c1, hf⟩
    · refine e_icmp_ge (pc := 7) (tgt := 21) C dX11_alwaysKnob_7 (by decide) (fun _ => ?_) (fun q => absurd c1 q)
      refine e_iload_n (pc := 21) C dX11_alwaysKnob_21 0 rfl rfl ?_
      obtain rfl := so_e hf
      exact e_iret (pc := 22) C hr dX11_alwaysKnob_22 (Nat.le_of_ble_eq_true rfl) (Nat.le_of_ble_eq_true rfl)
    · refine e_icmp_ge (pc := 7) (tgt := 21) C dX11_alwaysKnob_7 (by decide) (fun q => absurd q c1) (fun _ => ?_)
      refine e_iload_n (pc := 10) C dX11_alwaysKnob_10 0 rfl rfl ?_
      obtain ⟨r4, h2, y3, hf⟩ := cb_e hf
      refine e_callSi (pc := 11) (st := []) C (ct_X11_aMileOlder y3) dX11_alwaysKnob_11 g785 g786 g146 g787 hd_X11_aMileOlder rfl ⟨Nat.le_of_ble_eq_true rfl, Nat.le_of_ble_eq_true rfl⟩ ⟨Nat.le_of_ble_eq_true rfl, Nat.le_of_ble_eq_true rfl⟩ rfl (Nat.le_of_ble_eq_true rfl) ?_
      refine e_istore_n (pc := 14) (lv2 := [(1, .int r4), (2, .int v2)]) C hm dX11_alwaysKnob_14 rfl (by decide) rfl ?_
      obtain ⟨x5, ex5, hf⟩ := nn_e hf
      refine e_iinc (pc := 15) (v := x5) (lv2 := [(2, .int x5), (1, .int r4)]) C hm dX11_alwaysKnob_15 1 rfl (by rw [ex5]; rfl) (by decide) rfl ?_
      refine e_goto (pc := 18) (tgt := 4) C dX11_alwaysKnob_18 (by decide) ?_
      refine e_lv (lv2 := [(1, .int r4), (2, .int x5)]) [1, 0] rfl ?_
      exact ih_4 r4 x5 h2 hf
set_option maxHeartbeats 4000000 in
set_option maxRecDepth 100000 in
theorem ct_X11_alwaysKnob {G : GG} {l : Launch} {v0 : Int32} {h : AH} {y : Int32 × AH} (hf : f_X11_alwaysKnob G v0 h = some y) : Ct G l yX11_alwaysKnob cX11_alwaysKnob 3 (some .int) 1 20 0 0 [.int v0] h (some (.int y.1), y.2) := by
  refine ct_of (by decide) (Nat.le_of_ble_eq_true rfl) ?_
  intro p e s m args below meth c C hm hr hin
  have C : Cx G cX11_alwaysKnob RX11 p s m args meth c := C
  refine e_lv (lv2 := [(0, .int v0)]) [0] rfl ?_
  unfold f_X11_alwaysKnob at hf
  refine e_iload_n (pc := 0) C dX11_alwaysKnob_0 0 rfl rfl ?_
  refine e_istore_n (pc := 1) (lv2 := [(1, .int v0), (0, .int v0)]) C hm dX11_alwaysKnob_1 rfl (by decide) rfl ?_
  refine e_iconst (v := (0 : Int32)) (pc := 2) C dX11_alwaysKnob_2 (by decide) ?_
  refine e_istore_n (pc := 3) (lv2 := [(2, .int (0 : Int32)), (1, .int v0), (0, .int v0)]) C hm dX11_alwaysKnob_3 rfl (by decide) rfl ?_
  refine e_lv (lv2 := [(1, .int v0), (2, .int (0 : Int32))]) [1, 0] rfl ?_
  exact el_X11_alwaysKnob_4 C hm hr hin bN v0 (0 : Int32) h hf
theorem dX0_seatBits_0 : decode cX0_seatBits 0 = .ok (.iconst 0, 1) := by decide +kernel
theorem dX0_seatBits_1 : decode cX0_seatBits 1 = .ok (.istore_n 1, 1) := by decide +kernel
theorem dX0_seatBits_2 : decode cX0_seatBits 2 = .ok (.iconst 0, 1) := by decide +kernel
theorem dX0_seatBits_3 : decode cX0_seatBits 3 = .ok (.istore_n 2, 1) := by decide +kernel
theorem dX0_seatBits_4 : decode cX0_seatBits 4 = .ok (.iload_n 2, 1) := by decide +kernel
theorem dX0_seatBits_5 : decode cX0_seatBits 5 = .ok (.aload_n 0, 1) := by decide +kernel
theorem dX0_seatBits_6 : decode cX0_seatBits 6 = .ok (.getfield 41, 3) := by decide +kernel
theorem dX0_seatBits_9 : decode cX0_seatBits 9 = .ok (.getfield 62, 3) := by decide +kernel
theorem dX0_seatBits_12 : decode cX0_seatBits 12 = .ok (.if_icmp .ge 34, 3) := by decide +kernel
theorem dX0_seatBits_15 : decode cX0_seatBits 15 = .ok (.iload_n 1, 1) := by decide +kernel
theorem dX0_seatBits_16 : decode cX0_seatBits 16 = .ok (.aload_n 0, 1) := by decide +kernel
theorem dX0_seatBits_17 : decode cX0_seatBits 17 = .ok (.getfield 28, 3) := by decide +kernel
theorem dX0_seatBits_20 : decode cX0_seatBits 20 = .ok (.iload_n 2, 1) := by decide +kernel
theorem dX0_seatBits_21 : decode cX0_seatBits 21 = .ok (.iaload, 1) := by decide +kernel
theorem dX0_seatBits_22 : decode cX0_seatBits 22 = .ok (.iconst (-1), 1) := by decide +kernel
theorem dX0_seatBits_23 : decode cX0_seatBits 23 = .ok (.if_icmp .ne 7, 3) := by decide +kernel
theorem dX0_seatBits_26 : decode cX0_seatBits 26 = .ok (.iconst 0, 1) := by decide +kernel
theorem dX0_seatBits_27 : decode cX0_seatBits 27 = .ok (.goto 11, 3) := by decide +kernel
theorem dX0_seatBits_30 : decode cX0_seatBits 30 = .ok (.iconst 1, 1) := by decide +kernel
theorem dX0_seatBits_31 : decode cX0_seatBits 31 = .ok (.aload_n 0, 1) := by decide +kernel
theorem dX0_seatBits_32 : decode cX0_seatBits 32 = .ok (.getfield 28, 3) := by decide +kernel
theorem dX0_seatBits_35 : decode cX0_seatBits 35 = .ok (.iload_n 2, 1) := by decide +kernel
theorem dX0_seatBits_36 : decode cX0_seatBits 36 = .ok (.iaload, 1) := by decide +kernel
theorem dX0_seatBits_37 : decode cX0_seatBits 37 = .ok (.ishl, 1) := by decide +kernel
theorem dX0_seatBits_38 : decode cX0_seatBits 38 = .ok (.ior, 1) := by decide +kernel
theorem dX0_seatBits_39 : decode cX0_seatBits 39 = .ok (.istore_n 1, 1) := by decide +kernel
theorem dX0_seatBits_40 : decode cX0_seatBits 40 = .ok (.iinc 2 1, 3) := by decide +kernel
theorem dX0_seatBits_43 : decode cX0_seatBits 43 = .ok (.goto (-39), 3) := by decide +kernel
theorem dX0_seatBits_46 : decode cX0_seatBits 46 = .ok (.iload_n 1, 1) := by decide +kernel
theorem dX0_seatBits_47 : decode cX0_seatBits 47 = .ok (.ireturn, 1) := by decide +kernel
def F_X0_seatBits_4 (G : GG) (v0 : Nat) (self_4 : Int32 → Int32 → AH → Option (Int32 × AH)) (v1 : Int32) (v2 : Int32) (h : AH) : Option (Int32 × AH) :=
ck (m_t h v0 = .inl 0) <|
ob (m_r h v0 0) fun b2 =>
ck (m_t h b2 = .inl 9) <|
if (m_i h b2 5) ≤ v2 then (some (v1, h)) else
ob (m_r h v0 6) fun b5 =>
ck (ixb h b5 .int v2 = true) <|
nn (fun (s0_38 : Int32) => (nn (v1 ||| s0_38) fun x8 =>
nn (v2 + (1 : Int32)) fun x9 =>
self_4 x8 x9 h)) fun j_38 =>
if (m_i h b5 v2.toNatClampNeg) = (-1 : Int32) then (j_38 (0 : Int32)) else
ob (m_r h v0 6) fun b11 =>
ck (ixb h b11 .int v2 = true) <|
j_38 ((1 : Int32) <<< ((m_i h b11 v2.toNatClampNeg) &&& 31))
def f_X0_seatBits (G : GG) (v0 : Nat) (h : AH) : Option (Int32 × AH) :=
lq2 (F_X0_seatBits_4 G v0 ) bN (0 : Int32) (0 : Int32) h
set_option maxHeartbeats 4000000 in
set_option maxRecDepth 100000 in
theorem el_X0_seatBits_4 {G : GG} {p : Program} {l : Launch} {e : Env} {s : State} {m : MethodId} {args : Array Value} {below : List Frame} {meth : Method} {c : Code} {y : Int32 × AH} (C : Cx G cX0_seatBits RX0 p s m args meth c) (hm : c.maxLocals = 3) (hr : meth.sig.returnType = (some .int)) (hin : meth.name = yX0_seatBits.name) {v0 : Nat}  :
    ∀ (n : Nat) (v1 : Int32) (v2 : Int32) (h : AH), lq2 (F_X0_seatBits_4 G v0) n v1 v2 h = some y → EE G p l e ({ frames := 0, cells := 0, slots := 0, locals := 0 } : Room) s m args below meth c (some (.int y.1), y.2) 0 0 4 [(0, .ref v0), (1, .int v1), (2, .int v2)] [] h 0 0 := by
  intro n
  induction n with
  | zero => intro v1 v2 h hf; exact (no_e hf).elim
  | succ n ih_4 =>
    intro v1 v2 h hf
    have hf : F_X0_seatBits_4 G v0 (lq2 (F_X0_seatBits_4 G v0) n) v1 v2 h = some y := hf
    generalize lq2 (F_X0_seatBits_4 G v0) n = self_4 at hf ih_4
    unfold F_X0_seatBits_4 at hf
    refine e_iload_n (pc := 4) C dX0_seatBits_4 2 rfl rfl ?_
    refine e_aload_n (pc := 5) C dX0_seatBits_5 0 rfl rfl ?_
    obtain ⟨t1, hf⟩ := ck_e hf
    refine e_getr (pc := 6) 0 0 C dX0_seatBits_6 (by decide) (by decide) g393 rfl t1 ?_
    obtain ⟨b2, eb2, hf⟩ := ob_e hf
    refine e_rf eb2 ?_
    obtain ⟨t3, hf⟩ := ck_e hf
    refine e_getiN (pc := 9) 9 5 C dX0_seatBits_9 (by decide) (by decide) g334 rfl t3 ?_
    rcases it_e hf with ⟨c4, hf⟩ | ⟨c4, hf⟩
    · refine e_icmp_ge (pc := 12) (tgt := 46) C dX0_seatBits_12 (by decide) (fun _ => ?_) (fun q => absurd c4 q)
      refine e_iload_n (pc := 46) C dX0_seatBits_46 1 rfl rfl ?_
      obtain rfl := so_e hf
      exact e_iret (pc := 47) C hr dX0_seatBits_47 (Nat.le_of_ble_eq_true rfl) (Nat.le_of_ble_eq_true rfl)
    · refine e_icmp_ge (pc := 12) (tgt := 46) C dX0_seatBits_12 (by decide) (fun q => absurd q c4) (fun _ => ?_)
      refine e_iload_n (pc := 15) C dX0_seatBits_15 1 rfl rfl ?_
      refine e_aload_n (pc := 16) C dX0_seatBits_16 0 rfl rfl ?_
      refine e_getr (pc := 17) 0 6 C dX0_seatBits_17 (by decide) (by decide) g421 rfl t1 ?_
      obtain ⟨b5, eb5, hf⟩ := ob_e hf
      refine e_rf eb5 ?_
      refine e_iload_n (pc := 20) C dX0_seatBits_20 2 rfl rfl ?_
      obtain ⟨q6, hf⟩ := ck_e hf
      obtain ⟨n7, tn7, in7⟩ := ix_e q6
      refine e_iald (pc := 21) C dX0_seatBits_21 tn7 in7 ?_
      refine e_iconst (v := (-1 : Int32)) (pc := 22) C dX0_seatBits_22 (by decide) ?_
      obtain ⟨j_38, ej_38, hf⟩ := nn_e hf
      have W_38 : ∀ (s0_38 : Int32), j_38 s0_38 = some y → EE G p l e ({ frames := 0, cells := 0, slots := 0, locals := 0 } : Room) s m args below meth c (some (.int y.1), y.2) 0 0 38 [(0, .ref v0), (2, .int v2)] [.int s0_38, .int v1] h 0 0 := by
        intro s0_38 hf
        rw [ej_38] at hf
        refine e_ior (pc := 38) C dX0_seatBits_38 ?_
        obtain ⟨x8, ex8, hf⟩ := nn_e hf
        refine e_topi ex8 ?_
        refine e_istore_n (pc := 39) (lv2 := [(1, .int x8), (0, .ref v0), (2, .int v2)]) C hm dX0_seatBits_39 rfl (by decide) rfl ?_
        obtain ⟨x9, ex9, hf⟩ := nn_e hf
        refine e_iinc (pc := 40) (v := x9) (lv2 := [(2, .int x9), (1, .int x8), (0, .ref v0)]) C hm dX0_seatBits_40 2 rfl (by rw [ex9]; rfl) (by decide) rfl ?_
        refine e_goto (pc := 43) (tgt := 4) C dX0_seatBits_43 (by decide) ?_
        refine e_lv (lv2 := [(0, .ref v0), (1, .int x8), (2, .int x9)]) [2, 1, 0] rfl ?_
        exact ih_4 x8 x9 h hf
      rcases it_e hf with ⟨c10, hf⟩ | ⟨c10, hf⟩
      · refine e_icmp_ne (pc := 23) (tgt := 30) C dX0_seatBits_23 (by decide) (fun q => absurd c10 q) (fun _ => ?_)
        refine e_iconst (v := (0 : Int32)) (pc := 26) C dX0_seatBits_26 (by decide) ?_
        refine e_goto (pc := 27) (tgt := 38) C dX0_seatBits_27 (by decide) ?_
        refine e_lv (lv2 := [(0, .ref v0), (2, .int v2)]) [0, 2] rfl ?_
        exact W_38 (0 : Int32) hf
      · refine e_icmp_ne (pc := 23) (tgt := 30) C dX0_seatBits_23 (by decide) (fun _ => ?_) (fun q => absurd q c10)
        refine e_iconst (v := (1 : Int32)) (pc := 30) C dX0_seatBits_30 (by decide) ?_
        refine e_aload_n (pc := 31) C dX0_seatBits_31 0 rfl rfl ?_
        refine e_getr (pc := 32) 0 6 C dX0_seatBits_32 (by decide) (by decide) g421 rfl t1 ?_
        obtain ⟨b11, eb11, hf⟩ := ob_e hf
        refine e_rf eb11 ?_
        refine e_iload_n (pc := 35) C dX0_seatBits_35 2 rfl rfl ?_
        obtain ⟨q12, hf⟩ := ck_e hf
        obtain ⟨n13, tn13, in13⟩ := ix_e q12
        refine e_iald (pc := 36) C dX0_seatBits_36 tn13 in13 ?_
        refine e_ishl (pc := 37) C dX0_seatBits_37 ?_
        refine e_lv (lv2 := [(0, .ref v0), (2, .int v2)]) [0, 2] rfl ?_
        exact W_38 ((1 : Int32) <<< ((m_i h b11 v2.toNatClampNeg) &&& 31)) hf
set_option maxHeartbeats 4000000 in
set_option maxRecDepth 100000 in
theorem ct_X0_seatBits {G : GG} {l : Launch} {v0 : Nat} {h : AH} {y : Int32 × AH} (hf : f_X0_seatBits G v0 h = some y) : Ct G l yX0_seatBits cX0_seatBits 3 (some .int) 0 0 0 0 [.ref v0] h (some (.int y.1), y.2) := by
  refine ct_of (by decide) (Nat.le_of_ble_eq_true rfl) ?_
  intro p e s m args below meth c C hm hr hin
  have C : Cx G cX0_seatBits RX0 p s m args meth c := C
  refine e_lv (lv2 := [(0, .ref v0)]) [0] rfl ?_
  unfold f_X0_seatBits at hf
  refine e_iconst (v := (0 : Int32)) (pc := 0) C dX0_seatBits_0 (by decide) ?_
  refine e_istore_n (pc := 1) (lv2 := [(1, .int (0 : Int32)), (0, .ref v0)]) C hm dX0_seatBits_1 rfl (by decide) rfl ?_
  refine e_iconst (v := (0 : Int32)) (pc := 2) C dX0_seatBits_2 (by decide) ?_
  refine e_istore_n (pc := 3) (lv2 := [(2, .int (0 : Int32)), (1, .int (0 : Int32)), (0, .ref v0)]) C hm dX0_seatBits_3 rfl (by decide) rfl ?_
  refine e_lv (lv2 := [(0, .ref v0), (1, .int (0 : Int32)), (2, .int (0 : Int32))]) [2, 1, 0] rfl ?_
  exact el_X0_seatBits_4 C hm hr hin bN (0 : Int32) (0 : Int32) h hf
theorem dX0_placeFor_0 : decode cX0_placeFor 0 = .ok (.aload_n 1, 1) := by decide +kernel
theorem dX0_placeFor_1 : decode cX0_placeFor 1 = .ok (.getfield 161, 3) := by decide +kernel
theorem dX0_placeFor_4 : decode cX0_placeFor 4 = .ok (.ifCond .eq 8, 3) := by decide +kernel
theorem dX0_placeFor_7 : decode cX0_placeFor 7 = .ok (.bipush 15, 2) := by decide +kernel
theorem dX0_placeFor_9 : decode cX0_placeFor 9 = .ok (.goto 6, 3) := by decide +kernel
theorem dX0_placeFor_12 : decode cX0_placeFor 12 = .ok (.sipush 255, 3) := by decide +kernel
theorem dX0_placeFor_15 : decode cX0_placeFor 15 = .ok (.istore_n 2, 1) := by decide +kernel
theorem dX0_placeFor_16 : decode cX0_placeFor 16 = .ok (.iload_n 2, 1) := by decide +kernel
theorem dX0_placeFor_17 : decode cX0_placeFor 17 = .ok (.aload_n 0, 1) := by decide +kernel
theorem dX0_placeFor_18 : decode cX0_placeFor 18 = .ok (.invokevirtual 165, 3) := by decide +kernel
theorem dX0_placeFor_21 : decode cX0_placeFor 21 = .ok (.iconst (-1), 1) := by decide +kernel
theorem dX0_placeFor_22 : decode cX0_placeFor 22 = .ok (.ixor, 1) := by decide +kernel
theorem dX0_placeFor_23 : decode cX0_placeFor 23 = .ok (.iand, 1) := by decide +kernel
theorem dX0_placeFor_24 : decode cX0_placeFor 24 = .ok (.istore_n 3, 1) := by decide +kernel
theorem dX0_placeFor_25 : decode cX0_placeFor 25 = .ok (.iload_n 3, 1) := by decide +kernel
theorem dX0_placeFor_26 : decode cX0_placeFor 26 = .ok (.aload_n 1, 1) := by decide +kernel
theorem dX0_placeFor_27 : decode cX0_placeFor 27 = .ok (.getfield 168, 3) := by decide +kernel
theorem dX0_placeFor_30 : decode cX0_placeFor 30 = .ok (.ishr, 1) := by decide +kernel
theorem dX0_placeFor_31 : decode cX0_placeFor 31 = .ok (.iconst 1, 1) := by decide +kernel
theorem dX0_placeFor_32 : decode cX0_placeFor 32 = .ok (.iand, 1) := by decide +kernel
theorem dX0_placeFor_33 : decode cX0_placeFor 33 = .ok (.ifCond .eq 8, 3) := by decide +kernel
theorem dX0_placeFor_36 : decode cX0_placeFor 36 = .ok (.aload_n 1, 1) := by decide +kernel
theorem dX0_placeFor_37 : decode cX0_placeFor 37 = .ok (.getfield 168, 3) := by decide +kernel
theorem dX0_placeFor_40 : decode cX0_placeFor 40 = .ok (.ireturn, 1) := by decide +kernel
theorem dX0_placeFor_41 : decode cX0_placeFor 41 = .ok (.iconst 0, 1) := by decide +kernel
theorem dX0_placeFor_42 : decode cX0_placeFor 42 = .ok (.istore 4, 2) := by decide +kernel
theorem dX0_placeFor_44 : decode cX0_placeFor 44 = .ok (.iload 4, 2) := by decide +kernel
theorem dX0_placeFor_46 : decode cX0_placeFor 46 = .ok (.bipush 8, 2) := by decide +kernel
theorem dX0_placeFor_48 : decode cX0_placeFor 48 = .ok (.if_icmp .ge 21, 3) := by decide +kernel
theorem dX0_placeFor_51 : decode cX0_placeFor 51 = .ok (.iload_n 3, 1) := by decide +kernel
theorem dX0_placeFor_52 : decode cX0_placeFor 52 = .ok (.iload 4, 2) := by decide +kernel
theorem dX0_placeFor_54 : decode cX0_placeFor 54 = .ok (.ishr, 1) := by decide +kernel
theorem dX0_placeFor_55 : decode cX0_placeFor 55 = .ok (.iconst 1, 1) := by decide +kernel
theorem dX0_placeFor_56 : decode cX0_placeFor 56 = .ok (.iand, 1) := by decide +kernel
theorem dX0_placeFor_57 : decode cX0_placeFor 57 = .ok (.ifCond .eq 6, 3) := by decide +kernel
theorem dX0_placeFor_60 : decode cX0_placeFor 60 = .ok (.iload 4, 2) := by decide +kernel
theorem dX0_placeFor_62 : decode cX0_placeFor 62 = .ok (.ireturn, 1) := by decide +kernel
theorem dX0_placeFor_63 : decode cX0_placeFor 63 = .ok (.iinc 4 1, 3) := by decide +kernel
theorem dX0_placeFor_66 : decode cX0_placeFor 66 = .ok (.goto (-22), 3) := by decide +kernel
theorem dX0_placeFor_69 : decode cX0_placeFor 69 = .ok (.iconst (-1), 1) := by decide +kernel
theorem dX0_placeFor_70 : decode cX0_placeFor 70 = .ok (.ireturn, 1) := by decide +kernel
def F_X0_placeFor_44 (G : GG) (v3 : Int32) (self_44 : Int32 → AH → Option (Int32 × AH)) (v4 : Int32) (h : AH) : Option (Int32 × AH) :=
if (8 : Int32) ≤ v4 then (some ((-1 : Int32), h)) else
if ((v3 >>> (v4 &&& 31)) &&& (1 : Int32)) = 0 then (nn (v4 + (1 : Int32)) fun x11 =>
self_44 x11 h) else
some (v4, h)
def f_X0_placeFor (G : GG) (v0 : Nat) (v1 : Nat) (h : AH) : Option (Int32 × AH) :=
ck (m_t h v1 = .inl 5) <|
nn (fun (s0_15 : Int32) => (ck (m_t h v0 = .inl 0) <|
cb (f_X0_seatBits G v0 h) fun r5 h3 =>
nn (s0_15 &&& (r5 ^^^ (-1 : Int32))) fun x6 =>
ck (m_t h3 v1 = .inl 5) <|
if ((x6 >>> ((m_i h3 v1 0) &&& 31)) &&& (1 : Int32)) = 0 then (lq1 (F_X0_placeFor_44 G x6 ) bN (0 : Int32) h3) else
some (m_i h3 v1 0, h3))) fun j_15 =>
if (m_i h v1 6) = 0 then (j_15 (255 : Int32)) else
j_15 (15 : Int32)
set_option maxHeartbeats 4000000 in
set_option maxRecDepth 100000 in
theorem el_X0_placeFor_44 {G : GG} {p : Program} {l : Launch} {e : Env} {s : State} {m : MethodId} {args : Array Value} {below : List Frame} {meth : Method} {c : Code} {y : Int32 × AH} (C : Cx G cX0_placeFor RX0 p s m args meth c) (hm : c.maxLocals = 5) (hr : meth.sig.returnType = (some .int)) (hin : meth.name = yX0_placeFor.name) {v3 : Int32}  :
    ∀ (n : Nat) (v4 : Int32) (h : AH), lq1 (F_X0_placeFor_44 G v3) n v4 h = some y → EE G p l e ({ frames := 1, cells := 0, slots := 0, locals := 22 } : Room) s m args below meth c (some (.int y.1), y.2) 0 0 44 [(3, .int v3), (4, .int v4)] [] h 0 0 := by
  intro n
  induction n with
  | zero => intro v4 h hf; exact (no_e hf).elim
  | succ n ih_44 =>
    intro v4 h hf
    have hf : F_X0_placeFor_44 G v3 (lq1 (F_X0_placeFor_44 G v3) n) v4 h = some y := hf
    generalize lq1 (F_X0_placeFor_44 G v3) n = self_44 at hf ih_44
    unfold F_X0_placeFor_44 at hf
    refine e_iload (pc := 44) C dX0_placeFor_44 1 rfl ?_
    refine e_bipush (v := (8 : Int32)) (pc := 46) C dX0_placeFor_46 (by decide) ?_
    rcases it_e hf with ⟨c9, hf⟩ | ⟨c9, hf⟩
    · refine e_icmp_ge (pc := 48) (tgt := 69) C dX0_placeFor_48 (by decide) (fun _ => ?_) (fun q => absurd c9 q)
      refine e_iconst (v := (-1 : Int32)) (pc := 69) C dX0_placeFor_69 (by decide) ?_
      obtain rfl := so_e hf
      exact e_iret (pc := 70) C hr dX0_placeFor_70 (Nat.le_of_ble_eq_true rfl) (Nat.le_of_ble_eq_true rfl)
    · refine e_icmp_ge (pc := 48) (tgt := 69) C dX0_placeFor_48 (by decide) (fun q => absurd q c9) (fun _ => ?_)
      refine e_iload_n (pc := 51) C dX0_placeFor_51 0 rfl rfl ?_
      refine e_iload (pc := 52) C dX0_placeFor_52 1 rfl ?_
      refine e_ishr (pc := 54) C dX0_placeFor_54 ?_
      refine e_iconst (v := (1 : Int32)) (pc := 55) C dX0_placeFor_55 (by decide) ?_
      refine e_iand (pc := 56) C dX0_placeFor_56 ?_
      rcases it_e hf with ⟨c10, hf⟩ | ⟨c10, hf⟩
      · refine e_if_eq (pc := 57) (tgt := 63) C dX0_placeFor_57 (by decide) (fun _ => ?_) (fun q => absurd c10 q)
        obtain ⟨x11, ex11, hf⟩ := nn_e hf
        refine e_iinc (pc := 63) (v := x11) (lv2 := [(4, .int x11), (3, .int v3)]) C hm dX0_placeFor_63 1 rfl (by rw [ex11]; rfl) (by decide) rfl ?_
        refine e_goto (pc := 66) (tgt := 44) C dX0_placeFor_66 (by decide) ?_
        refine e_lv (lv2 := [(3, .int v3), (4, .int x11)]) [1, 0] rfl ?_
        exact ih_44 x11 h hf
      · refine e_if_eq (pc := 57) (tgt := 63) C dX0_placeFor_57 (by decide) (fun q => absurd q c10) (fun _ => ?_)
        refine e_iload (pc := 60) C dX0_placeFor_60 1 rfl ?_
        obtain rfl := so_e hf
        exact e_iret (pc := 62) C hr dX0_placeFor_62 (Nat.le_of_ble_eq_true rfl) (Nat.le_of_ble_eq_true rfl)
set_option maxHeartbeats 4000000 in
set_option maxRecDepth 100000 in
theorem ct_X0_placeFor {G : GG} {l : Launch} {v0 : Nat} {v1 : Nat} {h : AH} {y : Int32 × AH} (hf : f_X0_placeFor G v0 v1 h = some y) : Ct G l yX0_placeFor cX0_placeFor 5 (some .int) 1 22 0 0 [.ref v0, .ref v1] h (some (.int y.1), y.2) := by
  refine ct_of (by decide) (Nat.le_of_ble_eq_true rfl) ?_
  intro p e s m args below meth c C hm hr hin
  have C : Cx G cX0_placeFor RX0 p s m args meth c := C
  refine e_lv (lv2 := [(0, .ref v0), (1, .ref v1)]) [0, 1] rfl ?_
  unfold f_X0_placeFor at hf
  refine e_aload_n (pc := 0) C dX0_placeFor_0 1 rfl rfl ?_
  obtain ⟨t1, hf⟩ := ck_e hf
  refine e_getiN (pc := 1) 5 6 C dX0_placeFor_1 (by decide) (by decide) g296 rfl t1 ?_
  obtain ⟨j_15, ej_15, hf⟩ := nn_e hf
  have W_15 : ∀ (s0_15 : Int32), j_15 s0_15 = some y → EE G p l e ({ frames := 1, cells := 0, slots := 0, locals := 22 } : Room) s m args below meth c (some (.int y.1), y.2) 0 0 15 [(0, .ref v0), (1, .ref v1)] [.int s0_15] h 0 0 := by
    intro s0_15 hf
    rw [ej_15] at hf
    refine e_istore_n (pc := 15) (lv2 := [(2, .int s0_15), (0, .ref v0), (1, .ref v1)]) C hm dX0_placeFor_15 rfl (by decide) rfl ?_
    refine e_iload_n (pc := 16) C dX0_placeFor_16 0 rfl rfl ?_
    refine e_aload_n (pc := 17) C dX0_placeFor_17 1 rfl rfl ?_
    obtain ⟨t2, hf⟩ := ck_e hf
    obtain ⟨r5, h3, y4, hf⟩ := cb_e hf
    refine e_callVi (pc := 18) (st := [.int s0_15]) 0 C (ct_X0_seatBits y4) dX0_placeFor_18 (by decide) t2 g799 g800 g801 g151 g802 hd_X0_seatBits rfl ⟨Nat.le_of_ble_eq_true rfl, Nat.le_of_ble_eq_true rfl⟩ ⟨Nat.le_of_ble_eq_true rfl, Nat.le_of_ble_eq_true rfl⟩ rfl (Nat.le_of_ble_eq_true rfl) ?_
    refine e_iconst (v := (-1 : Int32)) (pc := 21) C dX0_placeFor_21 (by decide) ?_
    refine e_ixor (pc := 22) C dX0_placeFor_22 ?_
    refine e_iand (pc := 23) C dX0_placeFor_23 ?_
    obtain ⟨x6, ex6, hf⟩ := nn_e hf
    refine e_topi ex6 ?_
    refine e_istore_n (pc := 24) (lv2 := [(3, .int x6), (2, .int s0_15), (0, .ref v0), (1, .ref v1)]) C hm dX0_placeFor_24 rfl (by decide) rfl ?_
    refine e_iload_n (pc := 25) C dX0_placeFor_25 0 rfl rfl ?_
    refine e_aload_n (pc := 26) C dX0_placeFor_26 3 rfl rfl ?_
    obtain ⟨t7, hf⟩ := ck_e hf
    refine e_getiN (pc := 27) 5 0 C dX0_placeFor_27 (by decide) (by decide) g274 rfl t7 ?_
    refine e_ishr (pc := 30) C dX0_placeFor_30 ?_
    refine e_iconst (v := (1 : Int32)) (pc := 31) C dX0_placeFor_31 (by decide) ?_
    refine e_iand (pc := 32) C dX0_placeFor_32 ?_
    rcases it_e hf with ⟨c8, hf⟩ | ⟨c8, hf⟩
    · refine e_if_eq (pc := 33) (tgt := 41) C dX0_placeFor_33 (by decide) (fun _ => ?_) (fun q => absurd c8 q)
      refine e_iconst (v := (0 : Int32)) (pc := 41) C dX0_placeFor_41 (by decide) ?_
      refine e_istore (pc := 42) (lv2 := [(4, .int (0 : Int32)), (3, .int x6), (2, .int s0_15), (0, .ref v0), (1, .ref v1)]) C hm dX0_placeFor_42 (by decide) rfl ?_
      refine e_lv (lv2 := [(3, .int x6), (4, .int (0 : Int32))]) [1, 0] rfl ?_
      exact el_X0_placeFor_44 C hm hr hin bN (0 : Int32) h3 hf
    · refine e_if_eq (pc := 33) (tgt := 41) C dX0_placeFor_33 (by decide) (fun q => absurd q c8) (fun _ => ?_)
      refine e_aload_n (pc := 36) C dX0_placeFor_36 3 rfl rfl ?_
      refine e_getiN (pc := 37) 5 0 C dX0_placeFor_37 (by decide) (by decide) g274 rfl t7 ?_
      obtain rfl := so_e hf
      exact e_iret (pc := 40) C hr dX0_placeFor_40 (Nat.le_of_ble_eq_true rfl) (Nat.le_of_ble_eq_true rfl)
  rcases it_e hf with ⟨c12, hf⟩ | ⟨c12, hf⟩
  · refine e_if_eq (pc := 4) (tgt := 12) C dX0_placeFor_4 (by decide) (fun _ => ?_) (fun q => absurd c12 q)
    refine e_sipush (v := (255 : Int32)) (pc := 12) C dX0_placeFor_12 (by decide) ?_
    exact W_15 (255 : Int32) hf
  · refine e_if_eq (pc := 4) (tgt := 12) C dX0_placeFor_4 (by decide) (fun q => absurd q c12) (fun _ => ?_)
    refine e_bipush (v := (15 : Int32)) (pc := 7) C dX0_placeFor_7 (by decide) ?_
    refine e_goto (pc := 9) (tgt := 15) C dX0_placeFor_9 (by decide) ?_
    exact W_15 (15 : Int32) hf
theorem dX0_changeRiders_0 : decode cX0_changeRiders 0 = .ok (.iconst 0, 1) := by decide +kernel
theorem dX0_changeRiders_1 : decode cX0_changeRiders 1 = .ok (.istore_n 1, 1) := by decide +kernel
theorem dX0_changeRiders_2 : decode cX0_changeRiders 2 = .ok (.iload_n 1, 1) := by decide +kernel
theorem dX0_changeRiders_3 : decode cX0_changeRiders 3 = .ok (.aload_n 0, 1) := by decide +kernel
theorem dX0_changeRiders_4 : decode cX0_changeRiders 4 = .ok (.getfield 41, 3) := by decide +kernel
theorem dX0_changeRiders_7 : decode cX0_changeRiders 7 = .ok (.getfield 62, 3) := by decide +kernel
theorem dX0_changeRiders_10 : decode cX0_changeRiders 10 = .ok (.if_icmp .ge 35, 3) := by decide +kernel
theorem dX0_changeRiders_13 : decode cX0_changeRiders 13 = .ok (.aload_n 0, 1) := by decide +kernel
theorem dX0_changeRiders_14 : decode cX0_changeRiders 14 = .ok (.getfield 41, 3) := by decide +kernel
theorem dX0_changeRiders_17 : decode cX0_changeRiders 17 = .ok (.getfield 65, 3) := by decide +kernel
theorem dX0_changeRiders_20 : decode cX0_changeRiders 20 = .ok (.iload_n 1, 1) := by decide +kernel
theorem dX0_changeRiders_21 : decode cX0_changeRiders 21 = .ok (.aaload, 1) := by decide +kernel
theorem dX0_changeRiders_22 : decode cX0_changeRiders 22 = .ok (.getfield 90, 3) := by decide +kernel
theorem dX0_changeRiders_25 : decode cX0_changeRiders 25 = .ok (.aload_n 0, 1) := by decide +kernel
theorem dX0_changeRiders_26 : decode cX0_changeRiders 26 = .ok (.getfield 22, 3) := by decide +kernel
theorem dX0_changeRiders_29 : decode cX0_changeRiders 29 = .ok (.if_icmp .ne 10, 3) := by decide +kernel
theorem dX0_changeRiders_32 : decode cX0_changeRiders 32 = .ok (.aload_n 0, 1) := by decide +kernel
theorem dX0_changeRiders_33 : decode cX0_changeRiders 33 = .ok (.getfield 28, 3) := by decide +kernel
theorem dX0_changeRiders_36 : decode cX0_changeRiders 36 = .ok (.iload_n 1, 1) := by decide +kernel
theorem dX0_changeRiders_37 : decode cX0_changeRiders 37 = .ok (.iconst (-1), 1) := by decide +kernel
theorem dX0_changeRiders_38 : decode cX0_changeRiders 38 = .ok (.iastore, 1) := by decide +kernel
theorem dX0_changeRiders_39 : decode cX0_changeRiders 39 = .ok (.iinc 1 1, 3) := by decide +kernel
theorem dX0_changeRiders_42 : decode cX0_changeRiders 42 = .ok (.goto (-40), 3) := by decide +kernel
theorem dX0_changeRiders_45 : decode cX0_changeRiders 45 = .ok (.iconst 0, 1) := by decide +kernel
theorem dX0_changeRiders_46 : decode cX0_changeRiders 46 = .ok (.istore_n 1, 1) := by decide +kernel
theorem dX0_changeRiders_47 : decode cX0_changeRiders 47 = .ok (.iload_n 1, 1) := by decide +kernel
theorem dX0_changeRiders_48 : decode cX0_changeRiders 48 = .ok (.aload_n 0, 1) := by decide +kernel
theorem dX0_changeRiders_49 : decode cX0_changeRiders 49 = .ok (.getfield 41, 3) := by decide +kernel
theorem dX0_changeRiders_52 : decode cX0_changeRiders 52 = .ok (.getfield 62, 3) := by decide +kernel
theorem dX0_changeRiders_55 : decode cX0_changeRiders 55 = .ok (.if_icmp .ge 47, 3) := by decide +kernel
theorem dX0_changeRiders_58 : decode cX0_changeRiders 58 = .ok (.aload_n 0, 1) := by decide +kernel
theorem dX0_changeRiders_59 : decode cX0_changeRiders 59 = .ok (.getfield 41, 3) := by decide +kernel
theorem dX0_changeRiders_62 : decode cX0_changeRiders 62 = .ok (.getfield 65, 3) := by decide +kernel
theorem dX0_changeRiders_65 : decode cX0_changeRiders 65 = .ok (.iload_n 1, 1) := by decide +kernel
theorem dX0_changeRiders_66 : decode cX0_changeRiders 66 = .ok (.aaload, 1) := by decide +kernel
theorem dX0_changeRiders_67 : decode cX0_changeRiders 67 = .ok (.getfield 87, 3) := by decide +kernel
theorem dX0_changeRiders_70 : decode cX0_changeRiders 70 = .ok (.aload_n 0, 1) := by decide +kernel
theorem dX0_changeRiders_71 : decode cX0_changeRiders 71 = .ok (.getfield 22, 3) := by decide +kernel
theorem dX0_changeRiders_74 : decode cX0_changeRiders 74 = .ok (.if_icmp .ne 22, 3) := by decide +kernel
theorem dX0_changeRiders_77 : decode cX0_changeRiders 77 = .ok (.aload_n 0, 1) := by decide +kernel
theorem dX0_changeRiders_78 : decode cX0_changeRiders 78 = .ok (.getfield 28, 3) := by decide +kernel
theorem dX0_changeRiders_81 : decode cX0_changeRiders 81 = .ok (.iload_n 1, 1) := by decide +kernel
theorem dX0_changeRiders_82 : decode cX0_changeRiders 82 = .ok (.aload_n 0, 1) := by decide +kernel
theorem dX0_changeRiders_83 : decode cX0_changeRiders 83 = .ok (.aload_n 0, 1) := by decide +kernel
theorem dX0_changeRiders_84 : decode cX0_changeRiders 84 = .ok (.getfield 41, 3) := by decide +kernel
theorem dX0_changeRiders_87 : decode cX0_changeRiders 87 = .ok (.getfield 65, 3) := by decide +kernel
theorem dX0_changeRiders_90 : decode cX0_changeRiders 90 = .ok (.iload_n 1, 1) := by decide +kernel
theorem dX0_changeRiders_91 : decode cX0_changeRiders 91 = .ok (.aaload, 1) := by decide +kernel
theorem dX0_changeRiders_92 : decode cX0_changeRiders 92 = .ok (.invokevirtual 157, 3) := by decide +kernel
theorem dX0_changeRiders_95 : decode cX0_changeRiders 95 = .ok (.iastore, 1) := by decide +kernel
theorem dX0_changeRiders_96 : decode cX0_changeRiders 96 = .ok (.iinc 1 1, 3) := by decide +kernel
theorem dX0_changeRiders_99 : decode cX0_changeRiders 99 = .ok (.goto (-52), 3) := by decide +kernel
theorem dX0_changeRiders_102 : decode cX0_changeRiders 102 = .ok (.return_, 1) := by decide +kernel
def F_X0_changeRiders_2 (G : GG) (v0 : Nat) (K_45 : AH → Option (AH)) (self_2 : Int32 → AH → Option (AH)) (v1 : Int32) (h : AH) : Option (AH) :=
ck (m_t h v0 = .inl 0) <|
ob (m_r h v0 0) fun b2 =>
ck (m_t h b2 = .inl 9) <|
if (m_i h b2 5) ≤ v1 then (K_45 h) else
ob (m_r h v0 0) fun b5 =>
ck (m_t h b5 = .inl 9) <|
ob (m_r h b5 6) fun b7 =>
ck (ixb h b7 (.object RX5) v1 = true) <|
ob (m_r h b7 v1.toNatClampNeg) fun b10 =>
ck (m_t h b10 = .inl 5) <|
nn (fun (h_39 : AH) => (nn (v1 + (1 : Int32)) fun x12 =>
self_2 x12 h_39)) fun j_39 =>
if (m_i h b10 2) = (m_i h v0 4) then (ob (m_r h v0 6) fun b14 =>
ck (ixb h b14 .int v1 = true) <|
nn (m_si h b14 v1.toNatClampNeg (-1 : Int32)) fun h17 =>
j_39 h17) else
j_39 h
def F_X0_changeRiders_47 (G : GG) (v0 : Nat) (self_47 : Int32 → AH → Option (AH)) (v1 : Int32) (h : AH) : Option (AH) :=
ck (m_t h v0 = .inl 0) <|
ob (m_r h v0 0) fun b19 =>
ck (m_t h b19 = .inl 9) <|
if (m_i h b19 5) ≤ v1 then (some h) else
ob (m_r h v0 0) fun b22 =>
ck (m_t h b22 = .inl 9) <|
ob (m_r h b22 6) fun b24 =>
ck (ixb h b24 (.object RX5) v1 = true) <|
ob (m_r h b24 v1.toNatClampNeg) fun b27 =>
ck (m_t h b27 = .inl 5) <|
nn (fun (h_96 : AH) => (nn (v1 + (1 : Int32)) fun x29 =>
self_47 x29 h_96)) fun j_96 =>
if (m_i h b27 1) = (m_i h v0 4) then (ob (m_r h v0 6) fun b31 =>
ob (m_r h v0 0) fun b32 =>
ck (m_t h b32 = .inl 9) <|
ob (m_r h b32 6) fun b34 =>
ck (ixb h b34 (.object RX5) v1 = true) <|
ob (m_r h b34 v1.toNatClampNeg) fun b37 =>
cb (f_X0_placeFor G v0 b37 h) fun r40 h38 =>
ck (ixb h38 b31 .int v1 = true) <|
nn (m_si h38 b31 v1.toNatClampNeg r40) fun h43 =>
j_96 h43) else
j_96 h
def f_X0_changeRiders (G : GG) (v0 : Nat) (h : AH) : Option (AH) :=
lq1 (F_X0_changeRiders_2 G v0 (fun (h_45 : AH) => (lq1 (F_X0_changeRiders_47 G v0 ) bN (0 : Int32) h_45))) bN (0 : Int32) h
set_option maxHeartbeats 4000000 in
set_option maxRecDepth 100000 in
theorem el_X0_changeRiders_2 {G : GG} {p : Program} {l : Launch} {e : Env} {s : State} {m : MethodId} {args : Array Value} {below : List Frame} {meth : Method} {c : Code} {y : AH} (C : Cx G cX0_changeRiders RX0 p s m args meth c) (hm : c.maxLocals = 2) (hr : meth.sig.returnType = none) (hin : meth.name = yX0_changeRiders.name) {v0 : Nat} {K_45 : AH → Option (AH)} (hK_45 : ∀ (h : AH), K_45 h = some y → EE G p l e ({ frames := 2, cells := 0, slots := 0, locals := 46 } : Room) s m args below meth c (none, y) 0 0 45 [(0, .ref v0)] [] h 0 0) :
    ∀ (n : Nat) (v1 : Int32) (h : AH), lq1 (F_X0_changeRiders_2 G v0 K_45) n v1 h = some y → EE G p l e ({ frames := 2, cells := 0, slots := 0, locals := 46 } : Room) s m args below meth c (none, y) 0 0 2 [(0, .ref v0), (1, .int v1)] [] h 0 0 := by
  intro n
  induction n with
  | zero => intro v1 h hf; exact (no_e hf).elim
  | succ n ih_2 =>
    intro v1 h hf
    have hf : F_X0_changeRiders_2 G v0 K_45 (lq1 (F_X0_changeRiders_2 G v0 K_45) n) v1 h = some y := hf
    generalize lq1 (F_X0_changeRiders_2 G v0 K_45) n = self_2 at hf ih_2
    unfold F_X0_changeRiders_2 at hf
    refine e_iload_n (pc := 2) C dX0_changeRiders_2 1 rfl rfl ?_
    refine e_aload_n (pc := 3) C dX0_changeRiders_3 0 rfl rfl ?_
    obtain ⟨t1, hf⟩ := ck_e hf
    refine e_getr (pc := 4) 0 0 C dX0_changeRiders_4 (by decide) (by decide) g393 rfl t1 ?_
    obtain ⟨b2, eb2, hf⟩ := ob_e hf
    refine e_rf eb2 ?_
    obtain ⟨t3, hf⟩ := ck_e hf
    refine e_getiN (pc := 7) 9 5 C dX0_changeRiders_7 (by decide) (by decide) g334 rfl t3 ?_
    rcases it_e hf with ⟨c4, hf⟩ | ⟨c4, hf⟩
    · refine e_icmp_ge (pc := 10) (tgt := 45) C dX0_changeRiders_10 (by decide) (fun _ => ?_) (fun q => absurd c4 q)
      refine e_lv (lv2 := [(0, .ref v0)]) [0] rfl ?_
      exact hK_45 h hf
    · refine e_icmp_ge (pc := 10) (tgt := 45) C dX0_changeRiders_10 (by decide) (fun q => absurd q c4) (fun _ => ?_)
      refine e_aload_n (pc := 13) C dX0_changeRiders_13 0 rfl rfl ?_
      refine e_getr (pc := 14) 0 0 C dX0_changeRiders_14 (by decide) (by decide) g393 rfl t1 ?_
      obtain ⟨b5, eb5, hf⟩ := ob_e hf
      refine e_rf eb5 ?_
      obtain ⟨t6, hf⟩ := ck_e hf
      refine e_getrN (pc := 17) 9 6 C dX0_changeRiders_17 (by decide) (by decide) g340 rfl t6 ?_
      obtain ⟨b7, eb7, hf⟩ := ob_e hf
      refine e_rf eb7 ?_
      refine e_iload_n (pc := 20) C dX0_changeRiders_20 1 rfl rfl ?_
      obtain ⟨q8, hf⟩ := ck_e hf
      obtain ⟨n9, tn9, in9⟩ := ix_e q8
      refine e_aald (pc := 21) 4 rfl C dX0_changeRiders_21 tn9 in9 ?_
      obtain ⟨b10, eb10, hf⟩ := ob_e hf
      refine e_rf eb10 ?_
      obtain ⟨t11, hf⟩ := ck_e hf
      refine e_getiN (pc := 22) 5 2 C dX0_changeRiders_22 (by decide) (by decide) g279 rfl t11 ?_
      refine e_aload_n (pc := 25) C dX0_changeRiders_25 0 rfl rfl ?_
      refine e_geti (pc := 26) 0 4 C dX0_changeRiders_26 (by decide) (by decide) g412 rfl t1 ?_
      obtain ⟨j_39, ej_39, hf⟩ := nn_e hf
      have W_39 : ∀ (h_39 : AH), j_39 h_39 = some y → EE G p l e ({ frames := 2, cells := 0, slots := 0, locals := 46 } : Room) s m args below meth c (none, y) 0 0 39 [(0, .ref v0), (1, .int v1)] [] h_39 0 0 := by
        intro h_39 hf
        rw [ej_39] at hf
        obtain ⟨x12, ex12, hf⟩ := nn_e hf
        refine e_iinc (pc := 39) (v := x12) (lv2 := [(1, .int x12), (0, .ref v0)]) C hm dX0_changeRiders_39 1 rfl (by rw [ex12]; rfl) (by decide) rfl ?_
        refine e_goto (pc := 42) (tgt := 2) C dX0_changeRiders_42 (by decide) ?_
        refine e_lv (lv2 := [(0, .ref v0), (1, .int x12)]) [1, 0] rfl ?_
        exact ih_2 x12 h_39 hf
      rcases it_e hf with ⟨c13, hf⟩ | ⟨c13, hf⟩
      · refine e_icmp_ne (pc := 29) (tgt := 39) C dX0_changeRiders_29 (by decide) (fun q => absurd c13 q) (fun _ => ?_)
        refine e_aload_n (pc := 32) C dX0_changeRiders_32 0 rfl rfl ?_
        refine e_getr (pc := 33) 0 6 C dX0_changeRiders_33 (by decide) (by decide) g421 rfl t1 ?_
        obtain ⟨b14, eb14, hf⟩ := ob_e hf
        refine e_rf eb14 ?_
        refine e_iload_n (pc := 36) C dX0_changeRiders_36 1 rfl rfl ?_
        refine e_iconst (v := (-1 : Int32)) (pc := 37) C dX0_changeRiders_37 (by decide) ?_
        obtain ⟨q15, hf⟩ := ck_e hf
        obtain ⟨n16, tn16, in16⟩ := ix_e q15
        refine e_iast (pc := 38) C dX0_changeRiders_38 tn16 in16 ?_
        obtain ⟨h17, eh17, hf⟩ := nn_e hf
        refine e_hp eh17 ?_
        have uh17 : m_t h17 = m_t h := by rw [eh17]; exact rfl
        exact W_39 h17 hf
      · refine e_icmp_ne (pc := 29) (tgt := 39) C dX0_changeRiders_29 (by decide) (fun _ => ?_) (fun q => absurd q c13)
        exact W_39 h hf
set_option maxHeartbeats 4000000 in
set_option maxRecDepth 100000 in
theorem el_X0_changeRiders_47 {G : GG} {p : Program} {l : Launch} {e : Env} {s : State} {m : MethodId} {args : Array Value} {below : List Frame} {meth : Method} {c : Code} {y : AH} (C : Cx G cX0_changeRiders RX0 p s m args meth c) (hm : c.maxLocals = 2) (hr : meth.sig.returnType = none) (hin : meth.name = yX0_changeRiders.name) {v0 : Nat}  :
    ∀ (n : Nat) (v1 : Int32) (h : AH), lq1 (F_X0_changeRiders_47 G v0) n v1 h = some y → EE G p l e ({ frames := 2, cells := 0, slots := 0, locals := 46 } : Room) s m args below meth c (none, y) 0 0 47 [(0, .ref v0), (1, .int v1)] [] h 0 0 := by
  intro n
  induction n with
  | zero => intro v1 h hf; exact (no_e hf).elim
  | succ n ih_47 =>
    intro v1 h hf
    have hf : F_X0_changeRiders_47 G v0 (lq1 (F_X0_changeRiders_47 G v0) n) v1 h = some y := hf
    generalize lq1 (F_X0_changeRiders_47 G v0) n = self_47 at hf ih_47
    unfold F_X0_changeRiders_47 at hf
    refine e_iload_n (pc := 47) C dX0_changeRiders_47 1 rfl rfl ?_
    refine e_aload_n (pc := 48) C dX0_changeRiders_48 0 rfl rfl ?_
    obtain ⟨t18, hf⟩ := ck_e hf
    refine e_getr (pc := 49) 0 0 C dX0_changeRiders_49 (by decide) (by decide) g393 rfl t18 ?_
    obtain ⟨b19, eb19, hf⟩ := ob_e hf
    refine e_rf eb19 ?_
    obtain ⟨t20, hf⟩ := ck_e hf
    refine e_getiN (pc := 52) 9 5 C dX0_changeRiders_52 (by decide) (by decide) g334 rfl t20 ?_
    rcases it_e hf with ⟨c21, hf⟩ | ⟨c21, hf⟩
    · refine e_icmp_ge (pc := 55) (tgt := 102) C dX0_changeRiders_55 (by decide) (fun _ => ?_) (fun q => absurd c21 q)
      obtain rfl := so_e hf
      exact e_vret (pc := 102) C hr dX0_changeRiders_102 (Nat.le_of_ble_eq_true rfl) (Nat.le_of_ble_eq_true rfl)
    · refine e_icmp_ge (pc := 55) (tgt := 102) C dX0_changeRiders_55 (by decide) (fun q => absurd q c21) (fun _ => ?_)
      refine e_aload_n (pc := 58) C dX0_changeRiders_58 0 rfl rfl ?_
      refine e_getr (pc := 59) 0 0 C dX0_changeRiders_59 (by decide) (by decide) g393 rfl t18 ?_
      obtain ⟨b22, eb22, hf⟩ := ob_e hf
      refine e_rf eb22 ?_
      obtain ⟨t23, hf⟩ := ck_e hf
      refine e_getrN (pc := 62) 9 6 C dX0_changeRiders_62 (by decide) (by decide) g340 rfl t23 ?_
      obtain ⟨b24, eb24, hf⟩ := ob_e hf
      refine e_rf eb24 ?_
      refine e_iload_n (pc := 65) C dX0_changeRiders_65 1 rfl rfl ?_
      obtain ⟨q25, hf⟩ := ck_e hf
      obtain ⟨n26, tn26, in26⟩ := ix_e q25
      refine e_aald (pc := 66) 4 rfl C dX0_changeRiders_66 tn26 in26 ?_
      obtain ⟨b27, eb27, hf⟩ := ob_e hf
      refine e_rf eb27 ?_
      obtain ⟨t28, hf⟩ := ck_e hf
      refine e_getiN (pc := 67) 5 1 C dX0_changeRiders_67 (by decide) (by decide) g276 rfl t28 ?_
      refine e_aload_n (pc := 70) C dX0_changeRiders_70 0 rfl rfl ?_
      refine e_geti (pc := 71) 0 4 C dX0_changeRiders_71 (by decide) (by decide) g412 rfl t18 ?_
      obtain ⟨j_96, ej_96, hf⟩ := nn_e hf
      have W_96 : ∀ (h_96 : AH), j_96 h_96 = some y → EE G p l e ({ frames := 2, cells := 0, slots := 0, locals := 46 } : Room) s m args below meth c (none, y) 0 0 96 [(0, .ref v0), (1, .int v1)] [] h_96 0 0 := by
        intro h_96 hf
        rw [ej_96] at hf
        obtain ⟨x29, ex29, hf⟩ := nn_e hf
        refine e_iinc (pc := 96) (v := x29) (lv2 := [(1, .int x29), (0, .ref v0)]) C hm dX0_changeRiders_96 1 rfl (by rw [ex29]; rfl) (by decide) rfl ?_
        refine e_goto (pc := 99) (tgt := 47) C dX0_changeRiders_99 (by decide) ?_
        refine e_lv (lv2 := [(0, .ref v0), (1, .int x29)]) [1, 0] rfl ?_
        exact ih_47 x29 h_96 hf
      rcases it_e hf with ⟨c30, hf⟩ | ⟨c30, hf⟩
      · refine e_icmp_ne (pc := 74) (tgt := 96) C dX0_changeRiders_74 (by decide) (fun q => absurd c30 q) (fun _ => ?_)
        refine e_aload_n (pc := 77) C dX0_changeRiders_77 0 rfl rfl ?_
        refine e_getr (pc := 78) 0 6 C dX0_changeRiders_78 (by decide) (by decide) g421 rfl t18 ?_
        obtain ⟨b31, eb31, hf⟩ := ob_e hf
        refine e_rf eb31 ?_
        refine e_iload_n (pc := 81) C dX0_changeRiders_81 1 rfl rfl ?_
        refine e_aload_n (pc := 82) C dX0_changeRiders_82 0 rfl rfl ?_
        refine e_aload_n (pc := 83) C dX0_changeRiders_83 0 rfl rfl ?_
        refine e_getr (pc := 84) 0 0 C dX0_changeRiders_84 (by decide) (by decide) g393 rfl t18 ?_
        obtain ⟨b32, eb32, hf⟩ := ob_e hf
        refine e_rf eb32 ?_
        obtain ⟨t33, hf⟩ := ck_e hf
        refine e_getrN (pc := 87) 9 6 C dX0_changeRiders_87 (by decide) (by decide) g340 rfl t33 ?_
        obtain ⟨b34, eb34, hf⟩ := ob_e hf
        refine e_rf eb34 ?_
        refine e_iload_n (pc := 90) C dX0_changeRiders_90 1 rfl rfl ?_
        obtain ⟨q35, hf⟩ := ck_e hf
        obtain ⟨n36, tn36, in36⟩ := ix_e q35
        refine e_aald (pc := 91) 4 rfl C dX0_changeRiders_91 tn36 in36 ?_
        obtain ⟨b37, eb37, hf⟩ := ob_e hf
        refine e_rf eb37 ?_
        obtain ⟨r40, h38, y39, hf⟩ := cb_e hf
        refine e_callVi (pc := 92) (st := [.int v1, .ref b31]) 0 C (ct_X0_placeFor y39) dX0_changeRiders_92 (by decide) t18 g795 g797 g15 g151 g798 hd_X0_placeFor rfl ⟨Nat.le_of_ble_eq_true rfl, Nat.le_of_ble_eq_true rfl⟩ ⟨Nat.le_of_ble_eq_true rfl, Nat.le_of_ble_eq_true rfl⟩ rfl (Nat.le_of_ble_eq_true rfl) ?_
        obtain ⟨q41, hf⟩ := ck_e hf
        obtain ⟨n42, tn42, in42⟩ := ix_e q41
        refine e_iast (pc := 95) C dX0_changeRiders_95 tn42 in42 ?_
        obtain ⟨h43, eh43, hf⟩ := nn_e hf
        refine e_hp eh43 ?_
        have uh43 : m_t h43 = m_t h38 := by rw [eh43]; exact rfl
        exact W_96 h43 hf
      · refine e_icmp_ne (pc := 74) (tgt := 96) C dX0_changeRiders_74 (by decide) (fun _ => ?_) (fun q => absurd q c30)
        exact W_96 h hf
set_option maxHeartbeats 4000000 in
set_option maxRecDepth 100000 in
theorem ct_X0_changeRiders {G : GG} {l : Launch} {v0 : Nat} {h : AH} {y : AH} (hf : f_X0_changeRiders G v0 h = some y) : Ct G l yX0_changeRiders cX0_changeRiders 2 none 2 46 0 0 [.ref v0] h (none, y) := by
  refine ct_of (by decide) (Nat.le_of_ble_eq_true rfl) ?_
  intro p e s m args below meth c C hm hr hin
  have C : Cx G cX0_changeRiders RX0 p s m args meth c := C
  refine e_lv (lv2 := [(0, .ref v0)]) [0] rfl ?_
  unfold f_X0_changeRiders at hf
  refine e_iconst (v := (0 : Int32)) (pc := 0) C dX0_changeRiders_0 (by decide) ?_
  refine e_istore_n (pc := 1) (lv2 := [(1, .int (0 : Int32)), (0, .ref v0)]) C hm dX0_changeRiders_1 rfl (by decide) rfl ?_
  refine e_lv (lv2 := [(0, .ref v0), (1, .int (0 : Int32))]) [1, 0] rfl ?_
  refine el_X0_changeRiders_2 C hm hr hin (fun h_45 hf => ?_) bN (0 : Int32) h hf
  refine e_iconst (v := (0 : Int32)) (pc := 45) C dX0_changeRiders_45 (by decide) ?_
  refine e_istore_n (pc := 46) (lv2 := [(1, .int (0 : Int32)), (0, .ref v0)]) C hm dX0_changeRiders_46 rfl (by decide) rfl ?_
  refine e_lv (lv2 := [(0, .ref v0), (1, .int (0 : Int32))]) [1, 0] rfl ?_
  exact el_X0_changeRiders_47 C hm hr hin bN (0 : Int32) h_45 hf
theorem dX0_begin_0 : decode cX0_begin 0 = .ok (.aload_n 0, 1) := by decide +kernel
theorem dX0_begin_1 : decode cX0_begin 1 = .ok (.aload_n 0, 1) := by decide +kernel
theorem dX0_begin_2 : decode cX0_begin 2 = .ok (.getfield 41, 3) := by decide +kernel
theorem dX0_begin_5 : decode cX0_begin 5 = .ok (.getfield 45, 3) := by decide +kernel
theorem dX0_begin_8 : decode cX0_begin 8 = .ok (.putfield 15, 3) := by decide +kernel
theorem dX0_begin_11 : decode cX0_begin 11 = .ok (.aload_n 0, 1) := by decide +kernel
theorem dX0_begin_12 : decode cX0_begin 12 = .ok (.aload_n 0, 1) := by decide +kernel
theorem dX0_begin_13 : decode cX0_begin 13 = .ok (.getfield 41, 3) := by decide +kernel
theorem dX0_begin_16 : decode cX0_begin 16 = .ok (.getfield 48, 3) := by decide +kernel
theorem dX0_begin_19 : decode cX0_begin 19 = .ok (.putfield 19, 3) := by decide +kernel
theorem dX0_begin_22 : decode cX0_begin 22 = .ok (.aload_n 0, 1) := by decide +kernel
theorem dX0_begin_23 : decode cX0_begin 23 = .ok (.aload_n 0, 1) := by decide +kernel
theorem dX0_begin_24 : decode cX0_begin 24 = .ok (.getfield 41, 3) := by decide +kernel
theorem dX0_begin_27 : decode cX0_begin 27 = .ok (.getfield 49, 3) := by decide +kernel
theorem dX0_begin_30 : decode cX0_begin 30 = .ok (.invokestatic 52, 3) := by decide +kernel
theorem dX0_begin_33 : decode cX0_begin 33 = .ok (.putfield 25, 3) := by decide +kernel
theorem dX0_begin_36 : decode cX0_begin 36 = .ok (.aload_n 0, 1) := by decide +kernel
theorem dX0_begin_37 : decode cX0_begin 37 = .ok (.getfield 28, 3) := by decide +kernel
theorem dX0_begin_40 : decode cX0_begin 40 = .ok (.iconst (-1), 1) := by decide +kernel
theorem dX0_begin_41 : decode cX0_begin 41 = .ok (.invokestatic 56, 3) := by decide +kernel
theorem dX0_begin_44 : decode cX0_begin 44 = .ok (.iconst 0, 1) := by decide +kernel
theorem dX0_begin_45 : decode cX0_begin 45 = .ok (.istore_n 1, 1) := by decide +kernel
theorem dX0_begin_46 : decode cX0_begin 46 = .ok (.iload_n 1, 1) := by decide +kernel
theorem dX0_begin_47 : decode cX0_begin 47 = .ok (.aload_n 0, 1) := by decide +kernel
theorem dX0_begin_48 : decode cX0_begin 48 = .ok (.getfield 41, 3) := by decide +kernel
theorem dX0_begin_51 : decode cX0_begin 51 = .ok (.getfield 62, 3) := by decide +kernel
theorem dX0_begin_54 : decode cX0_begin 54 = .ok (.if_icmp .ge 27, 3) := by decide +kernel
theorem dX0_begin_57 : decode cX0_begin 57 = .ok (.aload_n 0, 1) := by decide +kernel
theorem dX0_begin_58 : decode cX0_begin 58 = .ok (.getfield 38, 3) := by decide +kernel
theorem dX0_begin_61 : decode cX0_begin 61 = .ok (.iload_n 1, 1) := by decide +kernel
theorem dX0_begin_62 : decode cX0_begin 62 = .ok (.aload_n 0, 1) := by decide +kernel
theorem dX0_begin_63 : decode cX0_begin 63 = .ok (.getfield 41, 3) := by decide +kernel
theorem dX0_begin_66 : decode cX0_begin 66 = .ok (.getfield 65, 3) := by decide +kernel
theorem dX0_begin_69 : decode cX0_begin 69 = .ok (.iload_n 1, 1) := by decide +kernel
theorem dX0_begin_70 : decode cX0_begin 70 = .ok (.aaload, 1) := by decide +kernel
theorem dX0_begin_71 : decode cX0_begin 71 = .ok (.getfield 69, 3) := by decide +kernel
theorem dX0_begin_74 : decode cX0_begin 74 = .ok (.iastore, 1) := by decide +kernel
theorem dX0_begin_75 : decode cX0_begin 75 = .ok (.iinc 1 1, 3) := by decide +kernel
theorem dX0_begin_78 : decode cX0_begin 78 = .ok (.goto (-32), 3) := by decide +kernel
theorem dX0_begin_81 : decode cX0_begin 81 = .ok (.aload_n 0, 1) := by decide +kernel
theorem dX0_begin_82 : decode cX0_begin 82 = .ok (.invokevirtual 74, 3) := by decide +kernel
theorem dX0_begin_85 : decode cX0_begin 85 = .ok (.return_, 1) := by decide +kernel
def F_X0_begin_46 (G : GG) (v0 : Nat) (K_81 : AH → Option (AH)) (self_46 : Int32 → AH → Option (AH)) (v1 : Int32) (h : AH) : Option (AH) :=
ck (m_t h v0 = .inl 0) <|
ob (m_r h v0 0) fun b19 =>
ck (m_t h b19 = .inl 9) <|
if (m_i h b19 5) ≤ v1 then (K_81 h) else
ob (m_r h v0 9) fun b22 =>
ob (m_r h v0 0) fun b23 =>
ck (m_t h b23 = .inl 9) <|
ob (m_r h b23 6) fun b25 =>
ck (ixb h b25 (.object RX5) v1 = true) <|
ob (m_r h b25 v1.toNatClampNeg) fun b28 =>
ck (m_t h b28 = .inl 5) <|
ck (ixb h b22 .int v1 = true) <|
nn (m_si h b22 v1.toNatClampNeg (m_i h b28 5)) fun h32 =>
nn (v1 + (1 : Int32)) fun x33 =>
self_46 x33 h32
def f_X0_begin (G : GG) (v0 : Nat) (h : AH) : Option (AH) :=
ck (m_t h v0 = .inl 0) <|
ob (m_r h v0 0) fun b2 =>
ck (m_t h b2 = .inl 9) <|
nn (m_si h v0 2 (m_i h b2 4)) fun h4 =>
ob (m_r h4 v0 0) fun b5 =>
ck (m_t h4 b5 = .inl 9) <|
nn (m_si h4 v0 3 (m_i h4 b5 1)) fun h7 =>
ob (m_r h7 v0 0) fun b8 =>
ck (m_t h7 b8 = .inl 9) <|
cb (f_X11_alwaysKnob G (m_i h7 b8 2) h7) fun r12 h10 =>
ck (m_t h10 v0 = .inl 0) <|
nn (m_si h10 v0 5 r12) fun h14 =>
ob (m_r h14 v0 6) fun b15 =>
ob (f_J7_fill_53178 G b15 (-1 : Int32) h14) fun h16 =>
lq1 (F_X0_begin_46 G v0 (fun (h_81 : AH) => (ck (m_t h_81 v0 = .inl 0) <|
ob (f_X0_changeRiders G v0 h_81) fun h35 =>
some h35))) bN (0 : Int32) h16
set_option maxHeartbeats 4000000 in
set_option maxRecDepth 100000 in
theorem el_X0_begin_46 {G : GG} {p : Program} {l : Launch} {e : Env} {s : State} {m : MethodId} {args : Array Value} {below : List Frame} {meth : Method} {c : Code} {y : AH} (C : Cx G cX0_begin RX0 p s m args meth c) (hm : c.maxLocals = 2) (hr : meth.sig.returnType = none) (hin : meth.name = yX0_begin.name) {v0 : Nat} {K_81 : AH → Option (AH)} (hK_81 : ∀ (h : AH), K_81 h = some y → EE G p l e ({ frames := 3, cells := 0, slots := 0, locals := 67 } : Room) s m args below meth c (none, y) 0 0 81 [(0, .ref v0)] [] h 0 0) :
    ∀ (n : Nat) (v1 : Int32) (h : AH), lq1 (F_X0_begin_46 G v0 K_81) n v1 h = some y → EE G p l e ({ frames := 3, cells := 0, slots := 0, locals := 67 } : Room) s m args below meth c (none, y) 0 0 46 [(0, .ref v0), (1, .int v1)] [] h 0 0 := by
  intro n
  induction n with
  | zero => intro v1 h hf; exact (no_e hf).elim
  | succ n ih_46 =>
    intro v1 h hf
    have hf : F_X0_begin_46 G v0 K_81 (lq1 (F_X0_begin_46 G v0 K_81) n) v1 h = some y := hf
    generalize lq1 (F_X0_begin_46 G v0 K_81) n = self_46 at hf ih_46
    unfold F_X0_begin_46 at hf
    refine e_iload_n (pc := 46) C dX0_begin_46 1 rfl rfl ?_
    refine e_aload_n (pc := 47) C dX0_begin_47 0 rfl rfl ?_
    obtain ⟨t18, hf⟩ := ck_e hf
    refine e_getr (pc := 48) 0 0 C dX0_begin_48 (by decide) (by decide) g393 rfl t18 ?_
    obtain ⟨b19, eb19, hf⟩ := ob_e hf
    refine e_rf eb19 ?_
    obtain ⟨t20, hf⟩ := ck_e hf
    refine e_getiN (pc := 51) 9 5 C dX0_begin_51 (by decide) (by decide) g334 rfl t20 ?_
    rcases it_e hf with ⟨c21, hf⟩ | ⟨c21, hf⟩
    · refine e_icmp_ge (pc := 54) (tgt := 81) C dX0_begin_54 (by decide) (fun _ => ?_) (fun q => absurd c21 q)
      refine e_lv (lv2 := [(0, .ref v0)]) [0] rfl ?_
      exact hK_81 h hf
    · refine e_icmp_ge (pc := 54) (tgt := 81) C dX0_begin_54 (by decide) (fun q => absurd q c21) (fun _ => ?_)
      refine e_aload_n (pc := 57) C dX0_begin_57 0 rfl rfl ?_
      refine e_getr (pc := 58) 0 9 C dX0_begin_58 (by decide) (by decide) g430 rfl t18 ?_
      obtain ⟨b22, eb22, hf⟩ := ob_e hf
      refine e_rf eb22 ?_
      refine e_iload_n (pc := 61) C dX0_begin_61 1 rfl rfl ?_
      refine e_aload_n (pc := 62) C dX0_begin_62 0 rfl rfl ?_
      refine e_getr (pc := 63) 0 0 C dX0_begin_63 (by decide) (by decide) g393 rfl t18 ?_
      obtain ⟨b23, eb23, hf⟩ := ob_e hf
      refine e_rf eb23 ?_
      obtain ⟨t24, hf⟩ := ck_e hf
      refine e_getrN (pc := 66) 9 6 C dX0_begin_66 (by decide) (by decide) g340 rfl t24 ?_
      obtain ⟨b25, eb25, hf⟩ := ob_e hf
      refine e_rf eb25 ?_
      refine e_iload_n (pc := 69) C dX0_begin_69 1 rfl rfl ?_
      obtain ⟨q26, hf⟩ := ck_e hf
      obtain ⟨n27, tn27, in27⟩ := ix_e q26
      refine e_aald (pc := 70) 4 rfl C dX0_begin_70 tn27 in27 ?_
      obtain ⟨b28, eb28, hf⟩ := ob_e hf
      refine e_rf eb28 ?_
      obtain ⟨t29, hf⟩ := ck_e hf
      refine e_getiN (pc := 71) 5 5 C dX0_begin_71 (by decide) (by decide) g291 rfl t29 ?_
      obtain ⟨q30, hf⟩ := ck_e hf
      obtain ⟨n31, tn31, in31⟩ := ix_e q30
      refine e_iast (pc := 74) C dX0_begin_74 tn31 in31 ?_
      obtain ⟨h32, eh32, hf⟩ := nn_e hf
      refine e_hp eh32 ?_
      have uh32 : m_t h32 = m_t h := by rw [eh32]; exact rfl
      obtain ⟨x33, ex33, hf⟩ := nn_e hf
      refine e_iinc (pc := 75) (v := x33) (lv2 := [(1, .int x33), (0, .ref v0)]) C hm dX0_begin_75 1 rfl (by rw [ex33]; rfl) (by decide) rfl ?_
      refine e_goto (pc := 78) (tgt := 46) C dX0_begin_78 (by decide) ?_
      refine e_lv (lv2 := [(0, .ref v0), (1, .int x33)]) [1, 0] rfl ?_
      exact ih_46 x33 h32 hf
set_option maxHeartbeats 4000000 in
set_option maxRecDepth 100000 in
theorem ct_X0_begin {G : GG} {l : Launch} {v0 : Nat} {h : AH} {y : AH} (hf : f_X0_begin G v0 h = some y) : Ct G l yX0_begin cX0_begin 2 none 3 67 0 0 [.ref v0] h (none, y) := by
  refine ct_of (by decide) (Nat.le_of_ble_eq_true rfl) ?_
  intro p e s m args below meth c C hm hr hin
  have C : Cx G cX0_begin RX0 p s m args meth c := C
  refine e_lv (lv2 := [(0, .ref v0)]) [0] rfl ?_
  unfold f_X0_begin at hf
  refine e_aload_n (pc := 0) C dX0_begin_0 0 rfl rfl ?_
  refine e_aload_n (pc := 1) C dX0_begin_1 0 rfl rfl ?_
  obtain ⟨t1, hf⟩ := ck_e hf
  refine e_getr (pc := 2) 0 0 C dX0_begin_2 (by decide) (by decide) g393 rfl t1 ?_
  obtain ⟨b2, eb2, hf⟩ := ob_e hf
  refine e_rf eb2 ?_
  obtain ⟨t3, hf⟩ := ck_e hf
  refine e_getiN (pc := 5) 9 4 C dX0_begin_5 (by decide) (by decide) g330 rfl t3 ?_
  refine e_puti (pc := 8) 0 2 C dX0_begin_8 (by decide) (by decide) g402 rfl rfl rfl rfl t1 ?_
  obtain ⟨h4, eh4, hf⟩ := nn_e hf
  refine e_hp eh4 ?_
  have uh4 : m_t h4 = m_t h := by rw [eh4]; exact rfl
  refine e_aload_n (pc := 11) C dX0_begin_11 0 rfl rfl ?_
  refine e_aload_n (pc := 12) C dX0_begin_12 0 rfl rfl ?_
  refine e_getr (pc := 13) 0 0 C dX0_begin_13 (by decide) (by decide) g393 rfl (e_mt uh4 t1) ?_
  obtain ⟨b5, eb5, hf⟩ := ob_e hf
  refine e_rf eb5 ?_
  obtain ⟨t6, hf⟩ := ck_e hf
  refine e_getiN (pc := 16) 9 1 C dX0_begin_16 (by decide) (by decide) g316 rfl t6 ?_
  refine e_puti (pc := 19) 0 3 C dX0_begin_19 (by decide) (by decide) g407 rfl rfl rfl rfl (e_mt uh4 t1) ?_
  obtain ⟨h7, eh7, hf⟩ := nn_e hf
  refine e_hp eh7 ?_
  have uh7 : m_t h7 = m_t h := by rw [eh7]; exact uh4
  refine e_aload_n (pc := 22) C dX0_begin_22 0 rfl rfl ?_
  refine e_aload_n (pc := 23) C dX0_begin_23 0 rfl rfl ?_
  refine e_getr (pc := 24) 0 0 C dX0_begin_24 (by decide) (by decide) g393 rfl (e_mt uh7 t1) ?_
  obtain ⟨b8, eb8, hf⟩ := ob_e hf
  refine e_rf eb8 ?_
  obtain ⟨t9, hf⟩ := ck_e hf
  refine e_getiN (pc := 27) 9 2 C dX0_begin_27 (by decide) (by decide) g320 rfl t9 ?_
  obtain ⟨r12, h10, y11, hf⟩ := cb_e hf
  refine e_callSNi (pc := 30) (st := [.ref v0]) C (ct_X11_alwaysKnob y11) dX0_begin_30 g782 g783 g146 g784 hd_X11_alwaysKnob rfl ⟨Nat.le_of_ble_eq_true rfl, Nat.le_of_ble_eq_true rfl⟩ ⟨Nat.le_of_ble_eq_true rfl, Nat.le_of_ble_eq_true rfl⟩ rfl (Nat.le_of_ble_eq_true rfl) ?_
  obtain ⟨t13, hf⟩ := ck_e hf
  refine e_puti (pc := 33) 0 5 C dX0_begin_33 (by decide) (by decide) g416 rfl rfl rfl rfl t13 ?_
  obtain ⟨h14, eh14, hf⟩ := nn_e hf
  refine e_hp eh14 ?_
  have uh14 : m_t h14 = m_t h10 := by rw [eh14]; exact rfl
  refine e_aload_n (pc := 36) C dX0_begin_36 0 rfl rfl ?_
  refine e_getr (pc := 37) 0 6 C dX0_begin_37 (by decide) (by decide) g421 rfl (e_mt uh14 t13) ?_
  obtain ⟨b15, eb15, hf⟩ := ob_e hf
  refine e_rf eb15 ?_
  refine e_iconst (v := (-1 : Int32)) (pc := 40) C dX0_begin_40 (by decide) ?_
  obtain ⟨h16, y17, hf⟩ := ob_e hf
  refine e_callSv (pc := 41) (st := []) C (ct_J7_fill_53178 y17) dX0_begin_41 g788 g789 g162 g790 hd_J7_fill_53178 rfl ⟨Nat.le_of_ble_eq_true rfl, Nat.le_of_ble_eq_true rfl⟩ ⟨Nat.le_of_ble_eq_true rfl, Nat.le_of_ble_eq_true rfl⟩ rfl (Nat.le_of_ble_eq_true rfl) ?_
  refine e_iconst (v := (0 : Int32)) (pc := 44) C dX0_begin_44 (by decide) ?_
  refine e_istore_n (pc := 45) (lv2 := [(1, .int (0 : Int32)), (0, .ref v0)]) C hm dX0_begin_45 rfl (by decide) rfl ?_
  refine e_lv (lv2 := [(0, .ref v0), (1, .int (0 : Int32))]) [1, 0] rfl ?_
  refine el_X0_begin_46 C hm hr hin (fun h_81 hf => ?_) bN (0 : Int32) h16 hf
  refine e_aload_n (pc := 81) C dX0_begin_81 0 rfl rfl ?_
  obtain ⟨t34, hf⟩ := ck_e hf
  obtain ⟨h35, y36, hf⟩ := ob_e hf
  refine e_callVv (pc := 82) (st := []) 0 C (ct_X0_changeRiders y36) dX0_begin_82 (by decide) t34 g791 g793 g14 g151 g794 hd_X0_changeRiders rfl ⟨Nat.le_of_ble_eq_true rfl, Nat.le_of_ble_eq_true rfl⟩ ⟨Nat.le_of_ble_eq_true rfl, Nat.le_of_ble_eq_true rfl⟩ rfl (Nat.le_of_ble_eq_true rfl) ?_
  obtain rfl := so_e hf
  exact e_vret (pc := 85) C hr dX0_begin_85 (Nat.le_of_ble_eq_true rfl) (Nat.le_of_ble_eq_true rfl)
theorem dX6_begin_0 : decode cX6_begin 0 = .ok (.aload_n 0, 1) := by decide +kernel
theorem dX6_begin_1 : decode cX6_begin 1 = .ok (.new 41, 3) := by decide +kernel
theorem dX6_begin_4 : decode cX6_begin 4 = .ok (.dup, 1) := by decide +kernel
theorem dX6_begin_5 : decode cX6_begin 5 = .ok (.aload_n 1, 1) := by decide +kernel
theorem dX6_begin_6 : decode cX6_begin 6 = .ok (.invokespecial 43, 3) := by decide +kernel
theorem dX6_begin_9 : decode cX6_begin 9 = .ok (.putfield 31, 3) := by decide +kernel
theorem dX6_begin_12 : decode cX6_begin 12 = .ok (.aload_n 0, 1) := by decide +kernel
theorem dX6_begin_13 : decode cX6_begin 13 = .ok (.getfield 31, 3) := by decide +kernel
theorem dX6_begin_16 : decode cX6_begin 16 = .ok (.invokevirtual 46, 3) := by decide +kernel
theorem dX6_begin_19 : decode cX6_begin 19 = .ok (.aload_n 0, 1) := by decide +kernel
theorem dX6_begin_20 : decode cX6_begin 20 = .ok (.iconst 0, 1) := by decide +kernel
theorem dX6_begin_21 : decode cX6_begin 21 = .ok (.putfield 9, 3) := by decide +kernel
theorem dX6_begin_24 : decode cX6_begin 24 = .ok (.aload_n 0, 1) := by decide +kernel
theorem dX6_begin_25 : decode cX6_begin 25 = .ok (.iconst 0, 1) := by decide +kernel
theorem dX6_begin_26 : decode cX6_begin 26 = .ok (.putfield 21, 3) := by decide +kernel
theorem dX6_begin_29 : decode cX6_begin 29 = .ok (.return_, 1) := by decide +kernel
def f_X6_begin (G : GG) (v0 : Nat) (v1 : Nat) (h : AH) : Option (AH) :=
nn (m_n h) fun x1 =>
nn (m_new h (.inl 0)) fun h2 =>
ob (f_X0_init G x1 v1 h2) fun h3 =>
ck (m_t h3 v0 = .inl 6) <|
nn (m_sr h3 v0 0 (some x1)) fun h6 =>
ob (m_r h6 v0 0) fun b7 =>
ck (m_t h6 b7 = .inl 0) <|
ob (f_X0_begin G b7 h6) fun h9 =>
ck (m_t h9 v0 = .inl 6) <|
nn (m_si h9 v0 1 (0 : Int32)) fun h12 =>
nn (m_si h12 v0 4 (0 : Int32)) fun h13 =>
some h13
set_option maxHeartbeats 4000000 in
set_option maxRecDepth 100000 in
theorem ct_X6_begin {G : GG} {l : Launch} {v0 : Nat} {v1 : Nat} {h : AH} {y : AH} (hf : f_X6_begin G v0 v1 h = some y) : Ct G l yX6_begin cX6_begin 2 none 4 88 5 42 [.ref v0, .ref v1] h (none, y) := by
  refine ct_of (by decide) (Nat.le_of_ble_eq_true rfl) ?_
  intro p e s m args below meth c C hm hr hin
  have C : Cx G cX6_begin RX6 p s m args meth c := C
  refine e_lv (lv2 := [(0, .ref v0), (1, .ref v1)]) [0, 1] rfl ?_
  unfold f_X6_begin at hf
  refine e_aload_n (pc := 0) C dX6_begin_0 0 rfl rfl ?_
  refine e_new (pc := 1) (ci := 0) C dX6_begin_1 (by decide) g776 g258 g151 (Nat.le_of_ble_eq_true rfl) (Nat.le_of_ble_eq_true rfl) ?_
  obtain ⟨x1, ex1, hf⟩ := nn_e hf
  refine e_topr ex1 ?_
  obtain ⟨h2, eh2, hf⟩ := nn_e hf
  refine e_hp eh2 ?_
  have tx1 : m_t h2 x1 = .inl 0 := by rw [eh2, ex1]; simp [m_t, m_new, m_n, va_up]
  refine e_dup (pc := 4) C dX6_begin_4 rfl ?_
  refine e_aload_n (pc := 5) C dX6_begin_5 1 rfl rfl ?_
  obtain ⟨h3, y4, hf⟩ := ob_e hf
  refine e_callIv (pc := 6) (st := [.ref x1, .ref v0]) C (ct_X0_init y4) dX6_begin_6 g777 g390 g151 g391 rfl hd_X0_init rfl ⟨Nat.le_of_ble_eq_true rfl, Nat.le_of_ble_eq_true rfl⟩ ⟨Nat.le_of_ble_eq_true rfl, Nat.le_of_ble_eq_true rfl⟩ rfl (Nat.le_of_ble_eq_true rfl) ?_
  obtain ⟨t5, hf⟩ := ck_e hf
  refine e_putr (pc := 9) (x := some x1) 6 0 C dX6_begin_9 (by decide) (by decide) g457 rfl rfl rfl rfl t5 ?_
  obtain ⟨h6, eh6, hf⟩ := nn_e hf
  refine e_hp eh6 ?_
  have uh6 : m_t h6 = m_t h3 := by rw [eh6]; exact rfl
  refine e_aload_n (pc := 12) C dX6_begin_12 0 rfl rfl ?_
  refine e_getr (pc := 13) 6 0 C dX6_begin_13 (by decide) (by decide) g457 rfl (e_mt uh6 t5) ?_
  obtain ⟨b7, eb7, hf⟩ := ob_e hf
  refine e_rf eb7 ?_
  obtain ⟨t8, hf⟩ := ck_e hf
  obtain ⟨h9, y10, hf⟩ := ob_e hf
  refine e_callVv (pc := 16) (st := []) 0 C (ct_X0_begin y10) dX6_begin_16 (by decide) t8 g778 g779 g780 g151 g781 hd_X0_begin rfl ⟨Nat.le_of_ble_eq_true rfl, Nat.le_of_ble_eq_true rfl⟩ ⟨Nat.le_of_ble_eq_true rfl, Nat.le_of_ble_eq_true rfl⟩ rfl (Nat.le_of_ble_eq_true rfl) ?_
  refine e_aload_n (pc := 19) C dX6_begin_19 0 rfl rfl ?_
  refine e_iconst (v := (0 : Int32)) (pc := 20) C dX6_begin_20 (by decide) ?_
  obtain ⟨t11, hf⟩ := ck_e hf
  refine e_puti (pc := 21) 6 1 C dX6_begin_21 (by decide) (by decide) g460 rfl rfl rfl rfl t11 ?_
  obtain ⟨h12, eh12, hf⟩ := nn_e hf
  refine e_hp eh12 ?_
  have uh12 : m_t h12 = m_t h9 := by rw [eh12]; exact rfl
  refine e_aload_n (pc := 24) C dX6_begin_24 0 rfl rfl ?_
  refine e_iconst (v := (0 : Int32)) (pc := 25) C dX6_begin_25 (by decide) ?_
  refine e_puti (pc := 26) 6 4 C dX6_begin_26 (by decide) (by decide) g466 rfl rfl rfl rfl (e_mt uh12 t11) ?_
  obtain ⟨h13, eh13, hf⟩ := nn_e hf
  refine e_hp eh13 ?_
  have uh13 : m_t h13 = m_t h9 := by rw [eh13]; exact uh12
  obtain rfl := so_e hf
  exact e_vret (pc := 29) C hr dX6_begin_29 (Nat.le_of_ble_eq_true rfl) (Nat.le_of_ble_eq_true rfl)
theorem dX11_train_0 : decode cX11_train 0 = .ok (.aload_n 0, 1) := by decide +kernel
theorem dX11_train_1 : decode cX11_train 1 = .ok (.getfield 21, 3) := by decide +kernel
theorem dX11_train_4 : decode cX11_train 4 = .ok (.invokevirtual 109, 3) := by decide +kernel
theorem dX11_train_7 : decode cX11_train 7 = .ok (.astore_n 1, 1) := by decide +kernel
theorem dX11_train_8 : decode cX11_train 8 = .ok (.aload_n 0, 1) := by decide +kernel
theorem dX11_train_9 : decode cX11_train 9 = .ok (.getfield 10, 3) := by decide +kernel
theorem dX11_train_12 : decode cX11_train 12 = .ok (.iconst 0, 1) := by decide +kernel
theorem dX11_train_13 : decode cX11_train 13 = .ok (.putfield 102, 3) := by decide +kernel
theorem dX11_train_16 : decode cX11_train 16 = .ok (.aload_n 1, 1) := by decide +kernel
theorem dX11_train_17 : decode cX11_train 17 = .ok (.ifnonnull 14, 3) := by decide +kernel
theorem dX11_train_20 : decode cX11_train 20 = .ok (.bipush (-2), 2) := by decide +kernel
theorem dX11_train_22 : decode cX11_train 22 = .ok (.aload_n 0, 1) := by decide +kernel
theorem dX11_train_23 : decode cX11_train 23 = .ok (.getfield 10, 3) := by decide +kernel
theorem dX11_train_26 : decode cX11_train 26 = .ok (.getfield 113, 3) := by decide +kernel
theorem dX11_train_29 : decode cX11_train 29 = .ok (.isub, 1) := by decide +kernel
theorem dX11_train_30 : decode cX11_train 30 = .ok (.ireturn, 1) := by decide +kernel
theorem dX11_train_31 : decode cX11_train 31 = .ok (.aload_n 0, 1) := by decide +kernel
theorem dX11_train_32 : decode cX11_train 32 = .ok (.getfield 55, 3) := by decide +kernel
theorem dX11_train_35 : decode cX11_train 35 = .ok (.aload_n 1, 1) := by decide +kernel
theorem dX11_train_36 : decode cX11_train 36 = .ok (.invokevirtual 116, 3) := by decide +kernel
theorem dX11_train_39 : decode cX11_train 39 = .ok (.aload_n 1, 1) := by decide +kernel
theorem dX11_train_40 : decode cX11_train 40 = .ok (.getfield 119, 3) := by decide +kernel
theorem dX11_train_43 : decode cX11_train 43 = .ok (.ireturn, 1) := by decide +kernel
def f_X11_train (G : GG) (v0 : Nat) (h : AH) : Option (Int32 × AH) :=
ck (m_t h v0 = .inl 11) <|
ob (m_r h v0 1) fun b2 =>
ck (m_t h b2 = .inl 10) <|
cb (f_X10_readTrain G b2 h) fun r6 h4 =>
ck (m_t h4 v0 = .inl 11) <|
ob (m_r h4 v0 0) fun b8 =>
ck (m_t h4 b8 = .inl 8) <|
nn (m_si h4 b8 1 (0 : Int32)) fun h10 =>
on (r6) (ob (m_r h10 v0 0) fun b13 =>
ck (m_t h10 b13 = .inl 8) <|
some ((-2 : Int32) - (m_i h10 b13 9), h10)) fun b11 =>
ob (m_r h10 v0 5) fun b15 =>
ck (m_t h10 b15 = .inl 6) <|
ob (f_X6_begin G b15 b11 h10) fun h17 =>
ck (m_t h17 b11 = .inl 9) <|
some (m_i h17 b11 5, h17)
set_option maxHeartbeats 4000000 in
set_option maxRecDepth 100000 in
theorem ct_X11_train {G : GG} {l : Launch} {v0 : Nat} {h : AH} {y : Int32 × AH} (hf : f_X11_train G v0 h = some y) : Ct G l yX11_train cX11_train 2 (some .int) 9 203 20 145 [.ref v0] h (some (.int y.1), y.2) := by
  refine ct_of (by decide) (Nat.le_of_ble_eq_true rfl) ?_
  intro p e s m args below meth c C hm hr hin
  have C : Cx G cX11_train RX11 p s m args meth c := C
  refine e_lv (lv2 := [(0, .ref v0)]) [0] rfl ?_
  unfold f_X11_train at hf
  refine e_aload_n (pc := 0) C dX11_train_0 0 rfl rfl ?_
  obtain ⟨t1, hf⟩ := ck_e hf
  refine e_getr (pc := 1) 11 1 C dX11_train_1 (by decide) (by decide) g574 rfl t1 ?_
  obtain ⟨b2, eb2, hf⟩ := ob_e hf
  refine e_rf eb2 ?_
  obtain ⟨t3, hf⟩ := ck_e hf
  obtain ⟨r6, h4, y5, hf⟩ := cb_e hf
  refine e_callVi (pc := 4) (st := []) 10 C (ct_X10_readTrain y5) dX11_train_4 (by decide) t3 g629 g630 g631 g148 g632 hd_X10_readTrain rfl ⟨Nat.le_of_ble_eq_true rfl, Nat.le_of_ble_eq_true rfl⟩ ⟨Nat.le_of_ble_eq_true rfl, Nat.le_of_ble_eq_true rfl⟩ rfl (Nat.le_of_ble_eq_true rfl) ?_
  refine e_astoreo_n (pc := 7) (lv2 := [(1, va_rf r6), (0, .ref v0)]) C hm dX11_train_7 rfl (by decide) rfl ?_
  refine e_aload_n (pc := 8) C dX11_train_8 1 rfl rfl ?_
  obtain ⟨t7, hf⟩ := ck_e hf
  refine e_getr (pc := 9) 11 0 C dX11_train_9 (by decide) (by decide) g573 rfl t7 ?_
  obtain ⟨b8, eb8, hf⟩ := ob_e hf
  refine e_rf eb8 ?_
  refine e_iconst (v := (0 : Int32)) (pc := 12) C dX11_train_12 (by decide) ?_
  obtain ⟨t9, hf⟩ := ck_e hf
  refine e_putiN (pc := 13) 8 1 C dX11_train_13 (by decide) (by decide) g183 rfl rfl rfl rfl t9 ?_
  obtain ⟨h10, eh10, hf⟩ := nn_e hf
  refine e_hp eh10 ?_
  have uh10 : m_t h10 = m_t h4 := by rw [eh10]; exact rfl
  refine e_aloado_n (pc := 16) C dX11_train_16 0 rfl rfl ?_
  rcases on_e hf with ⟨c12, hf⟩ | ⟨b11, c12, hf⟩
  · refine e_nonnullN (pc := 17) c12 C dX11_train_17 ?_
    refine e_bipush (v := (-2 : Int32)) (pc := 20) C dX11_train_20 (by decide) ?_
    refine e_aload_n (pc := 22) C dX11_train_22 1 rfl rfl ?_
    refine e_getr (pc := 23) 11 0 C dX11_train_23 (by decide) (by decide) g573 rfl (e_mt uh10 t7) ?_
    obtain ⟨b13, eb13, hf⟩ := ob_e hf
    refine e_rf eb13 ?_
    obtain ⟨t14, hf⟩ := ck_e hf
    refine e_getiN (pc := 26) 8 9 C dX11_train_26 (by decide) (by decide) g197 rfl t14 ?_
    refine e_isub (pc := 29) C dX11_train_29 ?_
    obtain rfl := so_e hf
    exact e_iret (pc := 30) C hr dX11_train_30 (Nat.le_of_ble_eq_true rfl) (Nat.le_of_ble_eq_true rfl)
  · refine e_nonnullS (pc := 17) (tgt := 31) c12 C dX11_train_17 (by decide) ?_
    refine e_lv (lv2 := [(1, .ref b11), (0, .ref v0)]) [0, 1] (by rw [c12]; rfl) ?_
    refine e_aload_n (pc := 31) C dX11_train_31 1 rfl rfl ?_
    refine e_getr (pc := 32) 11 5 C dX11_train_32 (by decide) (by decide) g578 rfl (e_mt uh10 t7) ?_
    obtain ⟨b15, eb15, hf⟩ := ob_e hf
    refine e_rf eb15 ?_
    refine e_aload_n (pc := 35) C dX11_train_35 0 rfl rfl ?_
    obtain ⟨t16, hf⟩ := ck_e hf
    obtain ⟨h17, y18, hf⟩ := ob_e hf
    refine e_callVv (pc := 36) (st := []) 6 C (ct_X6_begin y18) dX11_train_36 (by decide) t16 g772 g773 g774 g150 g775 hd_X6_begin rfl ⟨Nat.le_of_ble_eq_true rfl, Nat.le_of_ble_eq_true rfl⟩ ⟨Nat.le_of_ble_eq_true rfl, Nat.le_of_ble_eq_true rfl⟩ rfl (Nat.le_of_ble_eq_true rfl) ?_
    refine e_aload_n (pc := 39) C dX11_train_39 0 rfl rfl ?_
    obtain ⟨t19, hf⟩ := ck_e hf
    refine e_getiN (pc := 40) 9 5 C dX11_train_40 (by decide) (by decide) g337 rfl t19 ?_
    obtain rfl := so_e hf
    exact e_iret (pc := 43) C hr dX11_train_43 (Nat.le_of_ble_eq_true rfl) (Nat.le_of_ble_eq_true rfl)
theorem dX3_takePull_0 : decode cX3_takePull 0 = .ok (.aload_n 0, 1) := by decide +kernel
theorem dX3_takePull_1 : decode cX3_takePull 1 = .ok (.getfield 22, 3) := by decide +kernel
theorem dX3_takePull_4 : decode cX3_takePull 4 = .ok (.getfield 44, 3) := by decide +kernel
theorem dX3_takePull_7 : decode cX3_takePull 7 = .ok (.sipush 313, 3) := by decide +kernel
theorem dX3_takePull_10 : decode cX3_takePull 10 = .ok (.if_icmp .eq 14, 3) := by decide +kernel
theorem dX3_takePull_13 : decode cX3_takePull 13 = .ok (.aload_n 0, 1) := by decide +kernel
theorem dX3_takePull_14 : decode cX3_takePull 14 = .ok (.getfield 22, 3) := by decide +kernel
theorem dX3_takePull_17 : decode cX3_takePull 17 = .ok (.iconst 0, 1) := by decide +kernel
theorem dX3_takePull_18 : decode cX3_takePull 18 = .ok (.invokevirtual 70, 3) := by decide +kernel
theorem dX3_takePull_21 : decode cX3_takePull 21 = .ok (.goto 27, 3) := by decide +kernel
theorem dX3_takePull_24 : decode cX3_takePull 24 = .ok (.iload_n 1, 1) := by decide +kernel
theorem dX3_takePull_25 : decode cX3_takePull 25 = .ok (.bipush 12, 2) := by decide +kernel
theorem dX3_takePull_27 : decode cX3_takePull 27 = .ok (.if_icmp .ne 14, 3) := by decide +kernel
theorem dX3_takePull_30 : decode cX3_takePull 30 = .ok (.aload_n 0, 1) := by decide +kernel
theorem dX3_takePull_31 : decode cX3_takePull 31 = .ok (.getfield 22, 3) := by decide +kernel
theorem dX3_takePull_34 : decode cX3_takePull 34 = .ok (.iconst 4, 1) := by decide +kernel
theorem dX3_takePull_35 : decode cX3_takePull 35 = .ok (.invokevirtual 70, 3) := by decide +kernel
theorem dX3_takePull_38 : decode cX3_takePull 38 = .ok (.goto 10, 3) := by decide +kernel
theorem dX3_takePull_41 : decode cX3_takePull 41 = .ok (.aload_n 0, 1) := by decide +kernel
theorem dX3_takePull_42 : decode cX3_takePull 42 = .ok (.getfield 22, 3) := by decide +kernel
theorem dX3_takePull_45 : decode cX3_takePull 45 = .ok (.invokevirtual 47, 3) := by decide +kernel
theorem dX3_takePull_48 : decode cX3_takePull 48 = .ok (.return_, 1) := by decide +kernel
def f_X3_takePull (G : GG) (v0 : Nat) (v1 : Int32) (h : AH) : Option (AH) :=
ck (m_t h v0 = .inl 3) <|
ob (m_r h v0 0) fun b2 =>
ck (m_t h b2 = .inl 8) <|
if (m_i h b2 7) = (313 : Int32) then (if v1 = (12 : Int32) then (ob (m_r h v0 0) fun b6 =>
ck (m_t h b6 = .inl 8) <|
ob (f_X8_fail G b6 (4 : Int32) h) fun h8 =>
some h8) else
ob (m_r h v0 0) fun b10 =>
ck (m_t h b10 = .inl 8) <|
ob (f_X8_advance G b10 h) fun h12 =>
some h12) else
ob (m_r h v0 0) fun b14 =>
ck (m_t h b14 = .inl 8) <|
ob (f_X8_fail G b14 (0 : Int32) h) fun h16 =>
some h16
set_option maxHeartbeats 4000000 in
set_option maxRecDepth 100000 in
theorem ct_X3_takePull {G : GG} {l : Launch} {v0 : Nat} {v1 : Int32} {h : AH} {y : AH} (hf : f_X3_takePull G v0 v1 h = some y) : Ct G l yX3_takePull cX3_takePull 2 none 1 21 0 0 [.ref v0, .int v1] h (none, y) := by
  refine ct_of (by decide) (Nat.le_of_ble_eq_true rfl) ?_
  intro p e s m args below meth c C hm hr hin
  have C : Cx G cX3_takePull RX3 p s m args meth c := C
  refine e_lv (lv2 := [(0, .ref v0), (1, .int v1)]) [0, 1] rfl ?_
  unfold f_X3_takePull at hf
  refine e_aload_n (pc := 0) C dX3_takePull_0 0 rfl rfl ?_
  obtain ⟨t1, hf⟩ := ck_e hf
  refine e_getr (pc := 1) 3 0 C dX3_takePull_1 (by decide) (by decide) g240 rfl t1 ?_
  obtain ⟨b2, eb2, hf⟩ := ob_e hf
  refine e_rf eb2 ?_
  obtain ⟨t3, hf⟩ := ck_e hf
  refine e_getiN (pc := 4) 8 7 C dX3_takePull_4 (by decide) (by decide) g191 rfl t3 ?_
  refine e_sipush (v := (313 : Int32)) (pc := 7) C dX3_takePull_7 (by decide) ?_
  rcases it_e hf with ⟨c4, hf⟩ | ⟨c4, hf⟩
  · refine e_icmp_eq (pc := 10) (tgt := 24) C dX3_takePull_10 (by decide) (fun _ => ?_) (fun q => absurd c4 q)
    refine e_iload_n (pc := 24) C dX3_takePull_24 1 rfl rfl ?_
    refine e_bipush (v := (12 : Int32)) (pc := 25) C dX3_takePull_25 (by decide) ?_
    rcases it_e hf with ⟨c5, hf⟩ | ⟨c5, hf⟩
    · refine e_icmp_ne (pc := 27) (tgt := 41) C dX3_takePull_27 (by decide) (fun q => absurd c5 q) (fun _ => ?_)
      refine e_aload_n (pc := 30) C dX3_takePull_30 0 rfl rfl ?_
      refine e_getr (pc := 31) 3 0 C dX3_takePull_31 (by decide) (by decide) g240 rfl t1 ?_
      obtain ⟨b6, eb6, hf⟩ := ob_e hf
      refine e_rf eb6 ?_
      refine e_iconst (v := (4 : Int32)) (pc := 34) C dX3_takePull_34 (by decide) ?_
      obtain ⟨t7, hf⟩ := ck_e hf
      obtain ⟨h8, y9, hf⟩ := ob_e hf
      refine e_callVv (pc := 35) (st := []) 8 C (ct_X8_fail y9) dX3_takePull_35 (by decide) t7 g817 g723 g724 g147 g725 hd_X8_fail rfl ⟨Nat.le_of_ble_eq_true rfl, Nat.le_of_ble_eq_true rfl⟩ ⟨Nat.le_of_ble_eq_true rfl, Nat.le_of_ble_eq_true rfl⟩ rfl (Nat.le_of_ble_eq_true rfl) ?_
      refine e_goto (pc := 38) (tgt := 48) C dX3_takePull_38 (by decide) ?_
      obtain rfl := so_e hf
      exact e_vret (pc := 48) C hr dX3_takePull_48 (Nat.le_of_ble_eq_true rfl) (Nat.le_of_ble_eq_true rfl)
    · refine e_icmp_ne (pc := 27) (tgt := 41) C dX3_takePull_27 (by decide) (fun _ => ?_) (fun q => absurd q c5)
      refine e_aload_n (pc := 41) C dX3_takePull_41 0 rfl rfl ?_
      refine e_getr (pc := 42) 3 0 C dX3_takePull_42 (by decide) (by decide) g240 rfl t1 ?_
      obtain ⟨b10, eb10, hf⟩ := ob_e hf
      refine e_rf eb10 ?_
      obtain ⟨t11, hf⟩ := ck_e hf
      obtain ⟨h12, y13, hf⟩ := ob_e hf
      refine e_callVv (pc := 45) (st := []) 8 C (ct_X8_advance y13) dX3_takePull_45 (by decide) t11 g818 g715 g716 g147 g717 hd_X8_advance rfl ⟨Nat.le_of_ble_eq_true rfl, Nat.le_of_ble_eq_true rfl⟩ ⟨Nat.le_of_ble_eq_true rfl, Nat.le_of_ble_eq_true rfl⟩ rfl (Nat.le_of_ble_eq_true rfl) ?_
      obtain rfl := so_e hf
      exact e_vret (pc := 48) C hr dX3_takePull_48 (Nat.le_of_ble_eq_true rfl) (Nat.le_of_ble_eq_true rfl)
  · refine e_icmp_eq (pc := 10) (tgt := 24) C dX3_takePull_10 (by decide) (fun q => absurd q c4) (fun _ => ?_)
    refine e_aload_n (pc := 13) C dX3_takePull_13 0 rfl rfl ?_
    refine e_getr (pc := 14) 3 0 C dX3_takePull_14 (by decide) (by decide) g240 rfl t1 ?_
    obtain ⟨b14, eb14, hf⟩ := ob_e hf
    refine e_rf eb14 ?_
    refine e_iconst (v := (0 : Int32)) (pc := 17) C dX3_takePull_17 (by decide) ?_
    obtain ⟨t15, hf⟩ := ck_e hf
    obtain ⟨h16, y17, hf⟩ := ob_e hf
    refine e_callVv (pc := 18) (st := []) 8 C (ct_X8_fail y17) dX3_takePull_18 (by decide) t15 g817 g723 g724 g147 g725 hd_X8_fail rfl ⟨Nat.le_of_ble_eq_true rfl, Nat.le_of_ble_eq_true rfl⟩ ⟨Nat.le_of_ble_eq_true rfl, Nat.le_of_ble_eq_true rfl⟩ rfl (Nat.le_of_ble_eq_true rfl) ?_
    refine e_goto (pc := 21) (tgt := 48) C dX3_takePull_21 (by decide) ?_
    obtain rfl := so_e hf
    exact e_vret (pc := 48) C hr dX3_takePull_48 (Nat.le_of_ble_eq_true rfl) (Nat.le_of_ble_eq_true rfl)
theorem dX3_write_0 : decode cX3_write 0 = .ok (.aload_n 0, 1) := by decide +kernel
theorem dX3_write_1 : decode cX3_write 1 = .ok (.getfield 15, 3) := by decide +kernel
theorem dX3_write_4 : decode cX3_write 4 = .ok (.sipush 400, 3) := by decide +kernel
theorem dX3_write_7 : decode cX3_write 7 = .ok (.if_icmp .ge 23, 3) := by decide +kernel
theorem dX3_write_10 : decode cX3_write 10 = .ok (.aload_n 0, 1) := by decide +kernel
theorem dX3_write_11 : decode cX3_write 11 = .ok (.getfield 9, 3) := by decide +kernel
theorem dX3_write_14 : decode cX3_write 14 = .ok (.aload_n 0, 1) := by decide +kernel
theorem dX3_write_15 : decode cX3_write 15 = .ok (.getfield 15, 3) := by decide +kernel
theorem dX3_write_18 : decode cX3_write 18 = .ok (.iload_n 1, 1) := by decide +kernel
theorem dX3_write_19 : decode cX3_write 19 = .ok (.iastore, 1) := by decide +kernel
theorem dX3_write_20 : decode cX3_write 20 = .ok (.aload_n 0, 1) := by decide +kernel
theorem dX3_write_21 : decode cX3_write 21 = .ok (.dup, 1) := by decide +kernel
theorem dX3_write_22 : decode cX3_write 22 = .ok (.getfield 15, 3) := by decide +kernel
theorem dX3_write_25 : decode cX3_write 25 = .ok (.iconst 1, 1) := by decide +kernel
theorem dX3_write_26 : decode cX3_write 26 = .ok (.iadd, 1) := by decide +kernel
theorem dX3_write_27 : decode cX3_write 27 = .ok (.putfield 15, 3) := by decide +kernel
theorem dX3_write_30 : decode cX3_write 30 = .ok (.return_, 1) := by decide +kernel
def f_X3_write (G : GG) (v0 : Nat) (v1 : Int32) (h : AH) : Option (AH) :=
ck (m_t h v0 = .inl 3) <|
if (400 : Int32) ≤ (m_i h v0 2) then (some h) else
ob (m_r h v0 1) fun b3 =>
ck (ixb h b3 .int (m_i h v0 2) = true) <|
nn (m_si h b3 (m_i h v0 2).toNatClampNeg v1) fun h6 =>
nn (m_si h6 v0 2 ((m_i h6 v0 2) + (1 : Int32))) fun h7 =>
some h7
set_option maxHeartbeats 4000000 in
set_option maxRecDepth 100000 in
theorem ct_X3_write {G : GG} {l : Launch} {v0 : Nat} {v1 : Int32} {h : AH} {y : AH} (hf : f_X3_write G v0 v1 h = some y) : Ct G l yX3_write cX3_write 2 none 0 0 0 0 [.ref v0, .int v1] h (none, y) := by
  refine ct_of (by decide) (Nat.le_of_ble_eq_true rfl) ?_
  intro p e s m args below meth c C hm hr hin
  have C : Cx G cX3_write RX3 p s m args meth c := C
  refine e_lv (lv2 := [(0, .ref v0), (1, .int v1)]) [0, 1] rfl ?_
  unfold f_X3_write at hf
  refine e_aload_n (pc := 0) C dX3_write_0 0 rfl rfl ?_
  obtain ⟨t1, hf⟩ := ck_e hf
  refine e_geti (pc := 1) 3 2 C dX3_write_1 (by decide) (by decide) g242 rfl t1 ?_
  refine e_sipush (v := (400 : Int32)) (pc := 4) C dX3_write_4 (by decide) ?_
  rcases it_e hf with ⟨c2, hf⟩ | ⟨c2, hf⟩
  · refine e_icmp_ge (pc := 7) (tgt := 30) C dX3_write_7 (by decide) (fun _ => ?_) (fun q => absurd c2 q)
    obtain rfl := so_e hf
    exact e_vret (pc := 30) C hr dX3_write_30 (Nat.le_of_ble_eq_true rfl) (Nat.le_of_ble_eq_true rfl)
  · refine e_icmp_ge (pc := 7) (tgt := 30) C dX3_write_7 (by decide) (fun q => absurd q c2) (fun _ => ?_)
    refine e_aload_n (pc := 10) C dX3_write_10 0 rfl rfl ?_
    refine e_getr (pc := 11) 3 1 C dX3_write_11 (by decide) (by decide) g241 rfl t1 ?_
    obtain ⟨b3, eb3, hf⟩ := ob_e hf
    refine e_rf eb3 ?_
    refine e_aload_n (pc := 14) C dX3_write_14 0 rfl rfl ?_
    refine e_geti (pc := 15) 3 2 C dX3_write_15 (by decide) (by decide) g242 rfl t1 ?_
    refine e_iload_n (pc := 18) C dX3_write_18 1 rfl rfl ?_
    obtain ⟨q4, hf⟩ := ck_e hf
    obtain ⟨n5, tn5, in5⟩ := ix_e q4
    refine e_iast (pc := 19) C dX3_write_19 tn5 in5 ?_
    obtain ⟨h6, eh6, hf⟩ := nn_e hf
    refine e_hp eh6 ?_
    have uh6 : m_t h6 = m_t h := by rw [eh6]; exact rfl
    refine e_aload_n (pc := 20) C dX3_write_20 0 rfl rfl ?_
    refine e_dup (pc := 21) C dX3_write_21 rfl ?_
    refine e_geti (pc := 22) 3 2 C dX3_write_22 (by decide) (by decide) g242 rfl (e_mt uh6 t1) ?_
    refine e_iconst (v := (1 : Int32)) (pc := 25) C dX3_write_25 (by decide) ?_
    refine e_iadd (pc := 26) C dX3_write_26 ?_
    refine e_puti (pc := 27) 3 2 C dX3_write_27 (by decide) (by decide) g242 rfl rfl rfl rfl (e_mt uh6 t1) ?_
    obtain ⟨h7, eh7, hf⟩ := nn_e hf
    refine e_hp eh7 ?_
    have uh7 : m_t h7 = m_t h := by rw [eh7]; exact uh6
    obtain rfl := so_e hf
    exact e_vret (pc := 30) C hr dX3_write_30 (Nat.le_of_ble_eq_true rfl) (Nat.le_of_ble_eq_true rfl)
theorem dX3_readValue_0 : decode cX3_readValue 0 = .ok (.aload_n 0, 1) := by decide +kernel
theorem dX3_readValue_1 : decode cX3_readValue 1 = .ok (.getfield 22, 3) := by decide +kernel
theorem dX3_readValue_4 : decode cX3_readValue 4 = .ok (.getfield 44, 3) := by decide +kernel
theorem dX3_readValue_7 : decode cX3_readValue 7 = .ok (.istore_n 1, 1) := by decide +kernel
theorem dX3_readValue_8 : decode cX3_readValue 8 = .ok (.iload_n 1, 1) := by decide +kernel
theorem dX3_readValue_9 : decode cX3_readValue 9 = .ok (.sipush 300, 3) := by decide +kernel
theorem dX3_readValue_12 : decode cX3_readValue 12 = .ok (.if_icmp .lt 14, 3) := by decide +kernel
theorem dX3_readValue_15 : decode cX3_readValue 15 = .ok (.iload_n 1, 1) := by decide +kernel
theorem dX3_readValue_16 : decode cX3_readValue 16 = .ok (.sipush 312, 3) := by decide +kernel
theorem dX3_readValue_19 : decode cX3_readValue 19 = .ok (.if_icmp .gt 7, 3) := by decide +kernel
theorem dX3_readValue_22 : decode cX3_readValue 22 = .ok (.iconst 1, 1) := by decide +kernel
theorem dX3_readValue_23 : decode cX3_readValue 23 = .ok (.goto 4, 3) := by decide +kernel
theorem dX3_readValue_26 : decode cX3_readValue 26 = .ok (.iconst 0, 1) := by decide +kernel
theorem dX3_readValue_27 : decode cX3_readValue 27 = .ok (.istore_n 2, 1) := by decide +kernel
theorem dX3_readValue_28 : decode cX3_readValue 28 = .ok (.aload_n 0, 1) := by decide +kernel
theorem dX3_readValue_29 : decode cX3_readValue 29 = .ok (.dup, 1) := by decide +kernel
theorem dX3_readValue_30 : decode cX3_readValue 30 = .ok (.getfield 19, 3) := by decide +kernel
theorem dX3_readValue_33 : decode cX3_readValue 33 = .ok (.iconst 1, 1) := by decide +kernel
theorem dX3_readValue_34 : decode cX3_readValue 34 = .ok (.iadd, 1) := by decide +kernel
theorem dX3_readValue_35 : decode cX3_readValue 35 = .ok (.putfield 19, 3) := by decide +kernel
theorem dX3_readValue_38 : decode cX3_readValue 38 = .ok (.iload_n 2, 1) := by decide +kernel
theorem dX3_readValue_39 : decode cX3_readValue 39 = .ok (.ifCond .ne 21, 3) := by decide +kernel
theorem dX3_readValue_42 : decode cX3_readValue 42 = .ok (.iload_n 1, 1) := by decide +kernel
theorem dX3_readValue_43 : decode cX3_readValue 43 = .ok (.sipush 256, 3) := by decide +kernel
theorem dX3_readValue_46 : decode cX3_readValue 46 = .ok (.if_icmp .eq 14, 3) := by decide +kernel
theorem dX3_readValue_49 : decode cX3_readValue 49 = .ok (.aload_n 0, 1) := by decide +kernel
theorem dX3_readValue_50 : decode cX3_readValue 50 = .ok (.getfield 22, 3) := by decide +kernel
theorem dX3_readValue_53 : decode cX3_readValue 53 = .ok (.iconst 0, 1) := by decide +kernel
theorem dX3_readValue_54 : decode cX3_readValue 54 = .ok (.invokevirtual 70, 3) := by decide +kernel
theorem dX3_readValue_57 : decode cX3_readValue 57 = .ok (.goto 46, 3) := by decide +kernel
theorem dX3_readValue_60 : decode cX3_readValue 60 = .ok (.iload_n 2, 1) := by decide +kernel
theorem dX3_readValue_61 : decode cX3_readValue 61 = .ok (.ifCond .ne 25, 3) := by decide +kernel
theorem dX3_readValue_64 : decode cX3_readValue 64 = .ok (.aload_n 0, 1) := by decide +kernel
theorem dX3_readValue_65 : decode cX3_readValue 65 = .ok (.getfield 22, 3) := by decide +kernel
theorem dX3_readValue_68 : decode cX3_readValue 68 = .ok (.getfield 89, 3) := by decide +kernel
theorem dX3_readValue_71 : decode cX3_readValue 71 = .ok (.iconst (-1), 1) := by decide +kernel
theorem dX3_readValue_72 : decode cX3_readValue 72 = .ok (.if_icmp .ne 14, 3) := by decide +kernel
theorem dX3_readValue_75 : decode cX3_readValue 75 = .ok (.aload_n 0, 1) := by decide +kernel
theorem dX3_readValue_76 : decode cX3_readValue 76 = .ok (.getfield 22, 3) := by decide +kernel
theorem dX3_readValue_79 : decode cX3_readValue 79 = .ok (.iconst 1, 1) := by decide +kernel
theorem dX3_readValue_80 : decode cX3_readValue 80 = .ok (.invokevirtual 70, 3) := by decide +kernel
theorem dX3_readValue_83 : decode cX3_readValue 83 = .ok (.goto 20, 3) := by decide +kernel
theorem dX3_readValue_86 : decode cX3_readValue 86 = .ok (.aload_n 0, 1) := by decide +kernel
theorem dX3_readValue_87 : decode cX3_readValue 87 = .ok (.getfield 19, 3) := by decide +kernel
theorem dX3_readValue_90 : decode cX3_readValue 90 = .ok (.bipush 60, 2) := by decide +kernel
theorem dX3_readValue_92 : decode cX3_readValue 92 = .ok (.if_icmp .le 11, 3) := by decide +kernel
theorem dX3_readValue_95 : decode cX3_readValue 95 = .ok (.aload_n 0, 1) := by decide +kernel
theorem dX3_readValue_96 : decode cX3_readValue 96 = .ok (.getfield 22, 3) := by decide +kernel
theorem dX3_readValue_99 : decode cX3_readValue 99 = .ok (.iconst 3, 1) := by decide +kernel
theorem dX3_readValue_100 : decode cX3_readValue 100 = .ok (.invokevirtual 70, 3) := by decide +kernel
theorem dX3_readValue_103 : decode cX3_readValue 103 = .ok (.aload_n 0, 1) := by decide +kernel
theorem dX3_readValue_104 : decode cX3_readValue 104 = .ok (.getfield 22, 3) := by decide +kernel
theorem dX3_readValue_107 : decode cX3_readValue 107 = .ok (.getfield 34, 3) := by decide +kernel
theorem dX3_readValue_110 : decode cX3_readValue 110 = .ok (.ifCond .ne 30, 3) := by decide +kernel
theorem dX3_readValue_113 : decode cX3_readValue 113 = .ok (.aload_n 0, 1) := by decide +kernel
theorem dX3_readValue_114 : decode cX3_readValue 114 = .ok (.iload_n 2, 1) := by decide +kernel
theorem dX3_readValue_115 : decode cX3_readValue 115 = .ok (.ifCond .eq 8, 3) := by decide +kernel
theorem dX3_readValue_118 : decode cX3_readValue 118 = .ok (.iload_n 1, 1) := by decide +kernel
theorem dX3_readValue_119 : decode cX3_readValue 119 = .ok (.ineg, 1) := by decide +kernel
theorem dX3_readValue_120 : decode cX3_readValue 120 = .ok (.goto 10, 3) := by decide +kernel
theorem dX3_readValue_123 : decode cX3_readValue 123 = .ok (.aload_n 0, 1) := by decide +kernel
theorem dX3_readValue_124 : decode cX3_readValue 124 = .ok (.getfield 22, 3) := by decide +kernel
theorem dX3_readValue_127 : decode cX3_readValue 127 = .ok (.getfield 89, 3) := by decide +kernel
theorem dX3_readValue_130 : decode cX3_readValue 130 = .ok (.invokevirtual 53, 3) := by decide +kernel
theorem dX3_readValue_133 : decode cX3_readValue 133 = .ok (.aload_n 0, 1) := by decide +kernel
theorem dX3_readValue_134 : decode cX3_readValue 134 = .ok (.getfield 22, 3) := by decide +kernel
theorem dX3_readValue_137 : decode cX3_readValue 137 = .ok (.invokevirtual 47, 3) := by decide +kernel
theorem dX3_readValue_140 : decode cX3_readValue 140 = .ok (.return_, 1) := by decide +kernel
def f_X3_readValue (G : GG) (v0 : Nat) (h : AH) : Option (AH) :=
ck (m_t h v0 = .inl 3) <|
ob (m_r h v0 0) fun b2 =>
ck (m_t h b2 = .inl 8) <|
nn (m_i h b2 7) fun x4 =>
nn (fun (s0_27 : Int32) => (nn (m_si h v0 3 ((m_i h v0 3) + (1 : Int32))) fun h5 =>
nn (fun (h_103 : AH) => (ck (m_t h_103 v0 = .inl 3) <|
ob (m_r h_103 v0 0) fun b7 =>
ck (m_t h_103 b7 = .inl 8) <|
if (m_i h_103 b7 9) = 0 then (nn (fun (s0_130 : Int32) => (ob (f_X3_write G v0 s0_130 h_103) fun h10 =>
ck (m_t h10 v0 = .inl 3) <|
ob (m_r h10 v0 0) fun b13 =>
ck (m_t h10 b13 = .inl 8) <|
ob (f_X8_advance G b13 h10) fun h15 =>
some h15)) fun j_130 =>
if s0_27 = 0 then (ob (m_r h_103 v0 0) fun b18 =>
ck (m_t h_103 b18 = .inl 8) <|
j_130 (m_i h_103 b18 8)) else
j_130 (-x4)) else
some h_103)) fun j_103 =>
nn (fun (uu_60 : Unit) => (nn (fun (uu_86 : Unit) => (if (m_i h5 v0 3) ≤ (60 : Int32) then (j_103 h5) else
ob (m_r h5 v0 0) fun b21 =>
ck (m_t h5 b21 = .inl 8) <|
ob (f_X8_fail G b21 (3 : Int32) h5) fun h23 =>
j_103 h23)) fun j_86 =>
if s0_27 = 0 then (ob (m_r h5 v0 0) fun b26 =>
ck (m_t h5 b26 = .inl 8) <|
if (m_i h5 b26 8) = (-1 : Int32) then (ob (m_r h5 v0 0) fun b29 =>
ck (m_t h5 b29 = .inl 8) <|
ob (f_X8_fail G b29 (1 : Int32) h5) fun h31 =>
j_103 h31) else
j_86 ()) else
j_86 ())) fun j_60 =>
if s0_27 = 0 then (if x4 = (256 : Int32) then (j_60 ()) else
ob (m_r h5 v0 0) fun b35 =>
ck (m_t h5 b35 = .inl 8) <|
ob (f_X8_fail G b35 (0 : Int32) h5) fun h37 =>
j_103 h37) else
j_60 ())) fun j_27 =>
nn (fun (uu_26 : Unit) => (j_27 (0 : Int32))) fun j_26 =>
if x4 < (300 : Int32) then (j_26 ()) else
if (312 : Int32) < x4 then (j_26 ()) else
j_27 (1 : Int32)
set_option maxHeartbeats 4000000 in
set_option maxRecDepth 100000 in
theorem ct_X3_readValue {G : GG} {l : Launch} {v0 : Nat} {h : AH} {y : AH} (hf : f_X3_readValue G v0 h = some y) : Ct G l yX3_readValue cX3_readValue 3 none 1 21 0 0 [.ref v0] h (none, y) := by
  refine ct_of (by decide) (Nat.le_of_ble_eq_true rfl) ?_
  intro p e s m args below meth c C hm hr hin
  have C : Cx G cX3_readValue RX3 p s m args meth c := C
  refine e_lv (lv2 := [(0, .ref v0)]) [0] rfl ?_
  unfold f_X3_readValue at hf
  refine e_aload_n (pc := 0) C dX3_readValue_0 0 rfl rfl ?_
  obtain ⟨t1, hf⟩ := ck_e hf
  refine e_getr (pc := 1) 3 0 C dX3_readValue_1 (by decide) (by decide) g240 rfl t1 ?_
  obtain ⟨b2, eb2, hf⟩ := ob_e hf
  refine e_rf eb2 ?_
  obtain ⟨t3, hf⟩ := ck_e hf
  refine e_getiN (pc := 4) 8 7 C dX3_readValue_4 (by decide) (by decide) g191 rfl t3 ?_
  obtain ⟨x4, ex4, hf⟩ := nn_e hf
  refine e_topi ex4 ?_
  refine e_istore_n (pc := 7) (lv2 := [(1, .int x4), (0, .ref v0)]) C hm dX3_readValue_7 rfl (by decide) rfl ?_
  refine e_iload_n (pc := 8) C dX3_readValue_8 0 rfl rfl ?_
  refine e_sipush (v := (300 : Int32)) (pc := 9) C dX3_readValue_9 (by decide) ?_
  obtain ⟨j_27, ej_27, hf⟩ := nn_e hf
  have W_27 : ∀ (s0_27 : Int32), j_27 s0_27 = some y → EE G p l e ({ frames := 1, cells := 0, slots := 0, locals := 21 } : Room) s m args below meth c (none, y) 0 0 27 [(0, .ref v0), (1, .int x4)] [.int s0_27] h 0 0 := by
    intro s0_27 hf
    rw [ej_27] at hf
    refine e_istore_n (pc := 27) (lv2 := [(2, .int s0_27), (0, .ref v0), (1, .int x4)]) C hm dX3_readValue_27 rfl (by decide) rfl ?_
    refine e_aload_n (pc := 28) C dX3_readValue_28 1 rfl rfl ?_
    refine e_dup (pc := 29) C dX3_readValue_29 rfl ?_
    refine e_geti (pc := 30) 3 3 C dX3_readValue_30 (by decide) (by decide) g243 rfl t1 ?_
    refine e_iconst (v := (1 : Int32)) (pc := 33) C dX3_readValue_33 (by decide) ?_
    refine e_iadd (pc := 34) C dX3_readValue_34 ?_
    refine e_puti (pc := 35) 3 3 C dX3_readValue_35 (by decide) (by decide) g243 rfl rfl rfl rfl t1 ?_
    obtain ⟨h5, eh5, hf⟩ := nn_e hf
    refine e_hp eh5 ?_
    have uh5 : m_t h5 = m_t h := by rw [eh5]; exact rfl
    refine e_iload_n (pc := 38) C dX3_readValue_38 0 rfl rfl ?_
    obtain ⟨j_103, ej_103, hf⟩ := nn_e hf
    have W_103 : ∀ (h_103 : AH), j_103 h_103 = some y → EE G p l e ({ frames := 1, cells := 0, slots := 0, locals := 21 } : Room) s m args below meth c (none, y) 0 0 103 [(0, .ref v0), (1, .int x4), (2, .int s0_27)] [] h_103 0 0 := by
      intro h_103 hf
      rw [ej_103] at hf
      refine e_aload_n (pc := 103) C dX3_readValue_103 0 rfl rfl ?_
      obtain ⟨t6, hf⟩ := ck_e hf
      refine e_getr (pc := 104) 3 0 C dX3_readValue_104 (by decide) (by decide) g240 rfl t6 ?_
      obtain ⟨b7, eb7, hf⟩ := ob_e hf
      refine e_rf eb7 ?_
      obtain ⟨t8, hf⟩ := ck_e hf
      refine e_getiN (pc := 107) 8 9 C dX3_readValue_107 (by decide) (by decide) g195 rfl t8 ?_
      rcases it_e hf with ⟨c9, hf⟩ | ⟨c9, hf⟩
      · refine e_if_ne (pc := 110) (tgt := 140) C dX3_readValue_110 (by decide) (fun q => absurd c9 q) (fun _ => ?_)
        refine e_aload_n (pc := 113) C dX3_readValue_113 0 rfl rfl ?_
        refine e_iload_n (pc := 114) C dX3_readValue_114 2 rfl rfl ?_
        obtain ⟨j_130, ej_130, hf⟩ := nn_e hf
        have W_130 : ∀ (s0_130 : Int32), j_130 s0_130 = some y → EE G p l e ({ frames := 1, cells := 0, slots := 0, locals := 21 } : Room) s m args below meth c (none, y) 0 0 130 [(0, .ref v0)] [.int s0_130, .ref v0] h_103 0 0 := by
          intro s0_130 hf
          rw [ej_130] at hf
          obtain ⟨h10, y11, hf⟩ := ob_e hf
          refine e_callVv (pc := 130) (st := []) 3 C (ct_X3_write y11) dX3_readValue_130 (by decide) t6 g827 g829 g19 g149 g830 hd_X3_write rfl ⟨Nat.le_of_ble_eq_true rfl, Nat.le_of_ble_eq_true rfl⟩ ⟨Nat.le_of_ble_eq_true rfl, Nat.le_of_ble_eq_true rfl⟩ rfl (Nat.le_of_ble_eq_true rfl) ?_
          refine e_aload_n (pc := 133) C dX3_readValue_133 0 rfl rfl ?_
          obtain ⟨t12, hf⟩ := ck_e hf
          refine e_getr (pc := 134) 3 0 C dX3_readValue_134 (by decide) (by decide) g240 rfl t12 ?_
          obtain ⟨b13, eb13, hf⟩ := ob_e hf
          refine e_rf eb13 ?_
          obtain ⟨t14, hf⟩ := ck_e hf
          obtain ⟨h15, y16, hf⟩ := ob_e hf
          refine e_callVv (pc := 137) (st := []) 8 C (ct_X8_advance y16) dX3_readValue_137 (by decide) t14 g818 g715 g716 g147 g717 hd_X8_advance rfl ⟨Nat.le_of_ble_eq_true rfl, Nat.le_of_ble_eq_true rfl⟩ ⟨Nat.le_of_ble_eq_true rfl, Nat.le_of_ble_eq_true rfl⟩ rfl (Nat.le_of_ble_eq_true rfl) ?_
          obtain rfl := so_e hf
          exact e_vret (pc := 140) C hr dX3_readValue_140 (Nat.le_of_ble_eq_true rfl) (Nat.le_of_ble_eq_true rfl)
        rcases it_e hf with ⟨c17, hf⟩ | ⟨c17, hf⟩
        · refine e_if_eq (pc := 115) (tgt := 123) C dX3_readValue_115 (by decide) (fun _ => ?_) (fun q => absurd c17 q)
          refine e_aload_n (pc := 123) C dX3_readValue_123 0 rfl rfl ?_
          refine e_getr (pc := 124) 3 0 C dX3_readValue_124 (by decide) (by decide) g240 rfl t6 ?_
          obtain ⟨b18, eb18, hf⟩ := ob_e hf
          refine e_rf eb18 ?_
          obtain ⟨t19, hf⟩ := ck_e hf
          refine e_getiN (pc := 127) 8 8 C dX3_readValue_127 (by decide) (by decide) g193 rfl t19 ?_
          refine e_lv (lv2 := [(0, .ref v0)]) [0] rfl ?_
          exact W_130 (m_i h_103 b18 8) hf
        · refine e_if_eq (pc := 115) (tgt := 123) C dX3_readValue_115 (by decide) (fun q => absurd q c17) (fun _ => ?_)
          refine e_iload_n (pc := 118) C dX3_readValue_118 1 rfl rfl ?_
          refine e_ineg (pc := 119) C dX3_readValue_119 ?_
          refine e_goto (pc := 120) (tgt := 130) C dX3_readValue_120 (by decide) ?_
          refine e_lv (lv2 := [(0, .ref v0)]) [0] rfl ?_
          exact W_130 (-x4) hf
      · refine e_if_ne (pc := 110) (tgt := 140) C dX3_readValue_110 (by decide) (fun _ => ?_) (fun q => absurd q c9)
        obtain rfl := so_e hf
        exact e_vret (pc := 140) C hr dX3_readValue_140 (Nat.le_of_ble_eq_true rfl) (Nat.le_of_ble_eq_true rfl)
    obtain ⟨j_60, ej_60, hf⟩ := nn_e hf
    have W_60 : ∀ (uu_60 : Unit), j_60 uu_60 = some y → EE G p l e ({ frames := 1, cells := 0, slots := 0, locals := 21 } : Room) s m args below meth c (none, y) 0 0 60 [(0, .ref v0), (1, .int x4), (2, .int s0_27)] [] h5 0 0 := by
      intro uu_60 hf
      rw [ej_60] at hf
      refine e_iload_n (pc := 60) C dX3_readValue_60 2 rfl rfl ?_
      obtain ⟨j_86, ej_86, hf⟩ := nn_e hf
      have W_86 : ∀ (uu_86 : Unit), j_86 uu_86 = some y → EE G p l e ({ frames := 1, cells := 0, slots := 0, locals := 21 } : Room) s m args below meth c (none, y) 0 0 86 [(0, .ref v0), (1, .int x4), (2, .int s0_27)] [] h5 0 0 := by
        intro uu_86 hf
        rw [ej_86] at hf
        refine e_aload_n (pc := 86) C dX3_readValue_86 0 rfl rfl ?_
        refine e_geti (pc := 87) 3 3 C dX3_readValue_87 (by decide) (by decide) g243 rfl (e_mt uh5 t1) ?_
        refine e_bipush (v := (60 : Int32)) (pc := 90) C dX3_readValue_90 (by decide) ?_
        rcases it_e hf with ⟨c20, hf⟩ | ⟨c20, hf⟩
        · refine e_icmp_le (pc := 92) (tgt := 103) C dX3_readValue_92 (by decide) (fun _ => ?_) (fun q => absurd c20 q)
          exact W_103 h5 hf
        · refine e_icmp_le (pc := 92) (tgt := 103) C dX3_readValue_92 (by decide) (fun q => absurd q c20) (fun _ => ?_)
          refine e_aload_n (pc := 95) C dX3_readValue_95 0 rfl rfl ?_
          refine e_getr (pc := 96) 3 0 C dX3_readValue_96 (by decide) (by decide) g240 rfl (e_mt uh5 t1) ?_
          obtain ⟨b21, eb21, hf⟩ := ob_e hf
          refine e_rf eb21 ?_
          refine e_iconst (v := (3 : Int32)) (pc := 99) C dX3_readValue_99 (by decide) ?_
          obtain ⟨t22, hf⟩ := ck_e hf
          obtain ⟨h23, y24, hf⟩ := ob_e hf
          refine e_callVv (pc := 100) (st := []) 8 C (ct_X8_fail y24) dX3_readValue_100 (by decide) t22 g817 g723 g724 g147 g725 hd_X8_fail rfl ⟨Nat.le_of_ble_eq_true rfl, Nat.le_of_ble_eq_true rfl⟩ ⟨Nat.le_of_ble_eq_true rfl, Nat.le_of_ble_eq_true rfl⟩ rfl (Nat.le_of_ble_eq_true rfl) ?_
          exact W_103 h23 hf
      rcases it_e hf with ⟨c25, hf⟩ | ⟨c25, hf⟩
      · refine e_if_ne (pc := 61) (tgt := 86) C dX3_readValue_61 (by decide) (fun q => absurd c25 q) (fun _ => ?_)
        refine e_aload_n (pc := 64) C dX3_readValue_64 0 rfl rfl ?_
        refine e_getr (pc := 65) 3 0 C dX3_readValue_65 (by decide) (by decide) g240 rfl (e_mt uh5 t1) ?_
        obtain ⟨b26, eb26, hf⟩ := ob_e hf
        refine e_rf eb26 ?_
        obtain ⟨t27, hf⟩ := ck_e hf
        refine e_getiN (pc := 68) 8 8 C dX3_readValue_68 (by decide) (by decide) g193 rfl t27 ?_
        refine e_iconst (v := (-1 : Int32)) (pc := 71) C dX3_readValue_71 (by decide) ?_
        rcases it_e hf with ⟨c28, hf⟩ | ⟨c28, hf⟩
        · refine e_icmp_ne (pc := 72) (tgt := 86) C dX3_readValue_72 (by decide) (fun q => absurd c28 q) (fun _ => ?_)
          refine e_aload_n (pc := 75) C dX3_readValue_75 0 rfl rfl ?_
          refine e_getr (pc := 76) 3 0 C dX3_readValue_76 (by decide) (by decide) g240 rfl (e_mt uh5 t1) ?_
          obtain ⟨b29, eb29, hf⟩ := ob_e hf
          refine e_rf eb29 ?_
          refine e_iconst (v := (1 : Int32)) (pc := 79) C dX3_readValue_79 (by decide) ?_
          obtain ⟨t30, hf⟩ := ck_e hf
          obtain ⟨h31, y32, hf⟩ := ob_e hf
          refine e_callVv (pc := 80) (st := []) 8 C (ct_X8_fail y32) dX3_readValue_80 (by decide) t30 g817 g723 g724 g147 g725 hd_X8_fail rfl ⟨Nat.le_of_ble_eq_true rfl, Nat.le_of_ble_eq_true rfl⟩ ⟨Nat.le_of_ble_eq_true rfl, Nat.le_of_ble_eq_true rfl⟩ rfl (Nat.le_of_ble_eq_true rfl) ?_
          refine e_goto (pc := 83) (tgt := 103) C dX3_readValue_83 (by decide) ?_
          exact W_103 h31 hf
        · refine e_icmp_ne (pc := 72) (tgt := 86) C dX3_readValue_72 (by decide) (fun _ => ?_) (fun q => absurd q c28)
          exact W_86 () hf
      · refine e_if_ne (pc := 61) (tgt := 86) C dX3_readValue_61 (by decide) (fun _ => ?_) (fun q => absurd q c25)
        exact W_86 () hf
    rcases it_e hf with ⟨c33, hf⟩ | ⟨c33, hf⟩
    · refine e_if_ne (pc := 39) (tgt := 60) C dX3_readValue_39 (by decide) (fun q => absurd c33 q) (fun _ => ?_)
      refine e_iload_n (pc := 42) C dX3_readValue_42 2 rfl rfl ?_
      refine e_sipush (v := (256 : Int32)) (pc := 43) C dX3_readValue_43 (by decide) ?_
      rcases it_e hf with ⟨c34, hf⟩ | ⟨c34, hf⟩
      · refine e_icmp_eq (pc := 46) (tgt := 60) C dX3_readValue_46 (by decide) (fun _ => ?_) (fun q => absurd c34 q)
        refine e_lv (lv2 := [(0, .ref v0), (1, .int x4), (2, .int s0_27)]) [1, 2, 0] rfl ?_
        exact W_60 () hf
      · refine e_icmp_eq (pc := 46) (tgt := 60) C dX3_readValue_46 (by decide) (fun q => absurd q c34) (fun _ => ?_)
        refine e_aload_n (pc := 49) C dX3_readValue_49 1 rfl rfl ?_
        refine e_getr (pc := 50) 3 0 C dX3_readValue_50 (by decide) (by decide) g240 rfl (e_mt uh5 t1) ?_
        obtain ⟨b35, eb35, hf⟩ := ob_e hf
        refine e_rf eb35 ?_
        refine e_iconst (v := (0 : Int32)) (pc := 53) C dX3_readValue_53 (by decide) ?_
        obtain ⟨t36, hf⟩ := ck_e hf
        obtain ⟨h37, y38, hf⟩ := ob_e hf
        refine e_callVv (pc := 54) (st := []) 8 C (ct_X8_fail y38) dX3_readValue_54 (by decide) t36 g817 g723 g724 g147 g725 hd_X8_fail rfl ⟨Nat.le_of_ble_eq_true rfl, Nat.le_of_ble_eq_true rfl⟩ ⟨Nat.le_of_ble_eq_true rfl, Nat.le_of_ble_eq_true rfl⟩ rfl (Nat.le_of_ble_eq_true rfl) ?_
        refine e_goto (pc := 57) (tgt := 103) C dX3_readValue_57 (by decide) ?_
        refine e_lv (lv2 := [(0, .ref v0), (1, .int x4), (2, .int s0_27)]) [1, 2, 0] rfl ?_
        exact W_103 h37 hf
    · refine e_if_ne (pc := 39) (tgt := 60) C dX3_readValue_39 (by decide) (fun _ => ?_) (fun q => absurd q c33)
      refine e_lv (lv2 := [(0, .ref v0), (1, .int x4), (2, .int s0_27)]) [1, 2, 0] rfl ?_
      exact W_60 () hf
  obtain ⟨j_26, ej_26, hf⟩ := nn_e hf
  have W_26 : ∀ (uu_26 : Unit), j_26 uu_26 = some y → EE G p l e ({ frames := 1, cells := 0, slots := 0, locals := 21 } : Room) s m args below meth c (none, y) 0 0 26 [(0, .ref v0), (1, .int x4)] [] h 0 0 := by
    intro uu_26 hf
    rw [ej_26] at hf
    refine e_iconst (v := (0 : Int32)) (pc := 26) C dX3_readValue_26 (by decide) ?_
    exact W_27 (0 : Int32) hf
  rcases it_e hf with ⟨c39, hf⟩ | ⟨c39, hf⟩
  · refine e_icmp_lt (pc := 12) (tgt := 26) C dX3_readValue_12 (by decide) (fun _ => ?_) (fun q => absurd c39 q)
    refine e_lv (lv2 := [(0, .ref v0), (1, .int x4)]) [1, 0] rfl ?_
    exact W_26 () hf
  · refine e_icmp_lt (pc := 12) (tgt := 26) C dX3_readValue_12 (by decide) (fun q => absurd q c39) (fun _ => ?_)
    refine e_iload_n (pc := 15) C dX3_readValue_15 0 rfl rfl ?_
    refine e_sipush (v := (312 : Int32)) (pc := 16) C dX3_readValue_16 (by decide) ?_
    rcases it_e hf with ⟨c40, hf⟩ | ⟨c40, hf⟩
    · refine e_icmp_gt (pc := 19) (tgt := 26) C dX3_readValue_19 (by decide) (fun _ => ?_) (fun q => absurd c40 q)
      refine e_lv (lv2 := [(0, .ref v0), (1, .int x4)]) [1, 0] rfl ?_
      exact W_26 () hf
    · refine e_icmp_gt (pc := 19) (tgt := 26) C dX3_readValue_19 (by decide) (fun q => absurd q c40) (fun _ => ?_)
      refine e_iconst (v := (1 : Int32)) (pc := 22) C dX3_readValue_22 (by decide) ?_
      refine e_goto (pc := 23) (tgt := 27) C dX3_readValue_23 (by decide) ?_
      refine e_lv (lv2 := [(0, .ref v0), (1, .int x4)]) [1, 0] rfl ?_
      exact W_27 (1 : Int32) hf
theorem dX3_isReckoning_0 : decode cX3_isReckoning 0 = .ok (.iload_n 0, 1) := by decide +kernel
theorem dX3_isReckoning_1 : decode cX3_isReckoning 1 = .ok (.bipush 43, 2) := by decide +kernel
theorem dX3_isReckoning_3 : decode cX3_isReckoning 3 = .ok (.if_icmp .eq 27, 3) := by decide +kernel
theorem dX3_isReckoning_6 : decode cX3_isReckoning 6 = .ok (.iload_n 0, 1) := by decide +kernel
theorem dX3_isReckoning_7 : decode cX3_isReckoning 7 = .ok (.bipush 45, 2) := by decide +kernel
theorem dX3_isReckoning_9 : decode cX3_isReckoning 9 = .ok (.if_icmp .eq 21, 3) := by decide +kernel
theorem dX3_isReckoning_12 : decode cX3_isReckoning 12 = .ok (.iload_n 0, 1) := by decide +kernel
theorem dX3_isReckoning_13 : decode cX3_isReckoning 13 = .ok (.bipush 42, 2) := by decide +kernel
theorem dX3_isReckoning_15 : decode cX3_isReckoning 15 = .ok (.if_icmp .eq 15, 3) := by decide +kernel
theorem dX3_isReckoning_18 : decode cX3_isReckoning 18 = .ok (.iload_n 0, 1) := by decide +kernel
theorem dX3_isReckoning_19 : decode cX3_isReckoning 19 = .ok (.bipush 47, 2) := by decide +kernel
theorem dX3_isReckoning_21 : decode cX3_isReckoning 21 = .ok (.if_icmp .eq 9, 3) := by decide +kernel
theorem dX3_isReckoning_24 : decode cX3_isReckoning 24 = .ok (.iload_n 0, 1) := by decide +kernel
theorem dX3_isReckoning_25 : decode cX3_isReckoning 25 = .ok (.bipush 37, 2) := by decide +kernel
theorem dX3_isReckoning_27 : decode cX3_isReckoning 27 = .ok (.if_icmp .ne 7, 3) := by decide +kernel
theorem dX3_isReckoning_30 : decode cX3_isReckoning 30 = .ok (.iconst 1, 1) := by decide +kernel
theorem dX3_isReckoning_31 : decode cX3_isReckoning 31 = .ok (.goto 4, 3) := by decide +kernel
theorem dX3_isReckoning_34 : decode cX3_isReckoning 34 = .ok (.iconst 0, 1) := by decide +kernel
theorem dX3_isReckoning_35 : decode cX3_isReckoning 35 = .ok (.ireturn, 1) := by decide +kernel
def f_X3_isReckoning (G : GG) (v0 : Int32) (h : AH) : Option (Int32 × AH) :=
if v0 = (43 : Int32) then (some ((1 : Int32), h)) else
if v0 = (45 : Int32) then (some ((1 : Int32), h)) else
if v0 = (42 : Int32) then (some ((1 : Int32), h)) else
if v0 = (47 : Int32) then (some ((1 : Int32), h)) else
if v0 = (37 : Int32) then (some ((1 : Int32), h)) else
some ((0 : Int32), h)
set_option maxHeartbeats 4000000 in
set_option maxRecDepth 100000 in
theorem ct_X3_isReckoning {G : GG} {l : Launch} {v0 : Int32} {h : AH} {y : Int32 × AH} (hf : f_X3_isReckoning G v0 h = some y) : Ct G l yX3_isReckoning cX3_isReckoning 1 (some .boolean) 0 0 0 0 [.int v0] h (some (.int y.1), y.2) := by
  refine ct_of (by decide) (Nat.le_of_ble_eq_true rfl) ?_
  intro p e s m args below meth c C hm hr hin
  have C : Cx G cX3_isReckoning RX3 p s m args meth c := C
  refine e_lv (lv2 := [(0, .int v0)]) [0] rfl ?_
  unfold f_X3_isReckoning at hf
  refine e_iload_n (pc := 0) C dX3_isReckoning_0 0 rfl rfl ?_
  refine e_bipush (v := (43 : Int32)) (pc := 1) C dX3_isReckoning_1 (by decide) ?_
  rcases it_e hf with ⟨c1, hf⟩ | ⟨c1, hf⟩
  · refine e_icmp_eq (pc := 3) (tgt := 30) C dX3_isReckoning_3 (by decide) (fun _ => ?_) (fun q => absurd c1 q)
    refine e_iconst (v := (1 : Int32)) (pc := 30) C dX3_isReckoning_30 (by decide) ?_
    refine e_goto (pc := 31) (tgt := 35) C dX3_isReckoning_31 (by decide) ?_
    obtain rfl := so_e hf
    exact e_zret (pc := 35) (v := (1 : Int32)) C hr (nz_ok (by decide)) dX3_isReckoning_35 (Nat.le_of_ble_eq_true rfl) (Nat.le_of_ble_eq_true rfl)
  · refine e_icmp_eq (pc := 3) (tgt := 30) C dX3_isReckoning_3 (by decide) (fun q => absurd q c1) (fun _ => ?_)
    refine e_iload_n (pc := 6) C dX3_isReckoning_6 0 rfl rfl ?_
    refine e_bipush (v := (45 : Int32)) (pc := 7) C dX3_isReckoning_7 (by decide) ?_
    rcases it_e hf with ⟨c2, hf⟩ | ⟨c2, hf⟩
    · refine e_icmp_eq (pc := 9) (tgt := 30) C dX3_isReckoning_9 (by decide) (fun _ => ?_) (fun q => absurd c2 q)
      refine e_iconst (v := (1 : Int32)) (pc := 30) C dX3_isReckoning_30 (by decide) ?_
      refine e_goto (pc := 31) (tgt := 35) C dX3_isReckoning_31 (by decide) ?_
      obtain rfl := so_e hf
      exact e_zret (pc := 35) (v := (1 : Int32)) C hr (nz_ok (by decide)) dX3_isReckoning_35 (Nat.le_of_ble_eq_true rfl) (Nat.le_of_ble_eq_true rfl)
    · refine e_icmp_eq (pc := 9) (tgt := 30) C dX3_isReckoning_9 (by decide) (fun q => absurd q c2) (fun _ => ?_)
      refine e_iload_n (pc := 12) C dX3_isReckoning_12 0 rfl rfl ?_
      refine e_bipush (v := (42 : Int32)) (pc := 13) C dX3_isReckoning_13 (by decide) ?_
      rcases it_e hf with ⟨c3, hf⟩ | ⟨c3, hf⟩
      · refine e_icmp_eq (pc := 15) (tgt := 30) C dX3_isReckoning_15 (by decide) (fun _ => ?_) (fun q => absurd c3 q)
        refine e_iconst (v := (1 : Int32)) (pc := 30) C dX3_isReckoning_30 (by decide) ?_
        refine e_goto (pc := 31) (tgt := 35) C dX3_isReckoning_31 (by decide) ?_
        obtain rfl := so_e hf
        exact e_zret (pc := 35) (v := (1 : Int32)) C hr (nz_ok (by decide)) dX3_isReckoning_35 (Nat.le_of_ble_eq_true rfl) (Nat.le_of_ble_eq_true rfl)
      · refine e_icmp_eq (pc := 15) (tgt := 30) C dX3_isReckoning_15 (by decide) (fun q => absurd q c3) (fun _ => ?_)
        refine e_iload_n (pc := 18) C dX3_isReckoning_18 0 rfl rfl ?_
        refine e_bipush (v := (47 : Int32)) (pc := 19) C dX3_isReckoning_19 (by decide) ?_
        rcases it_e hf with ⟨c4, hf⟩ | ⟨c4, hf⟩
        · refine e_icmp_eq (pc := 21) (tgt := 30) C dX3_isReckoning_21 (by decide) (fun _ => ?_) (fun q => absurd c4 q)
          refine e_iconst (v := (1 : Int32)) (pc := 30) C dX3_isReckoning_30 (by decide) ?_
          refine e_goto (pc := 31) (tgt := 35) C dX3_isReckoning_31 (by decide) ?_
          obtain rfl := so_e hf
          exact e_zret (pc := 35) (v := (1 : Int32)) C hr (nz_ok (by decide)) dX3_isReckoning_35 (Nat.le_of_ble_eq_true rfl) (Nat.le_of_ble_eq_true rfl)
        · refine e_icmp_eq (pc := 21) (tgt := 30) C dX3_isReckoning_21 (by decide) (fun q => absurd q c4) (fun _ => ?_)
          refine e_iload_n (pc := 24) C dX3_isReckoning_24 0 rfl rfl ?_
          refine e_bipush (v := (37 : Int32)) (pc := 25) C dX3_isReckoning_25 (by decide) ?_
          rcases it_e hf with ⟨c5, hf⟩ | ⟨c5, hf⟩
          · refine e_icmp_ne (pc := 27) (tgt := 34) C dX3_isReckoning_27 (by decide) (fun q => absurd c5 q) (fun _ => ?_)
            refine e_iconst (v := (1 : Int32)) (pc := 30) C dX3_isReckoning_30 (by decide) ?_
            refine e_goto (pc := 31) (tgt := 35) C dX3_isReckoning_31 (by decide) ?_
            obtain rfl := so_e hf
            exact e_zret (pc := 35) (v := (1 : Int32)) C hr (nz_ok (by decide)) dX3_isReckoning_35 (Nat.le_of_ble_eq_true rfl) (Nat.le_of_ble_eq_true rfl)
          · refine e_icmp_ne (pc := 27) (tgt := 34) C dX3_isReckoning_27 (by decide) (fun _ => ?_) (fun q => absurd q c5)
            refine e_iconst (v := (0 : Int32)) (pc := 34) C dX3_isReckoning_34 (by decide) ?_
            obtain rfl := so_e hf
            exact e_zret (pc := 35) (v := (0 : Int32)) C hr (nz_ok (by decide)) dX3_isReckoning_35 (Nat.le_of_ble_eq_true rfl) (Nat.le_of_ble_eq_true rfl)
theorem dX3_readSum_0 : decode cX3_readSum 0 = .ok (.aload_n 0, 1) := by decide +kernel
theorem dX3_readSum_1 : decode cX3_readSum 1 = .ok (.invokevirtual 83, 3) := by decide +kernel
theorem dX3_readSum_4 : decode cX3_readSum 4 = .ok (.iconst 0, 1) := by decide +kernel
theorem dX3_readSum_5 : decode cX3_readSum 5 = .ok (.istore_n 1, 1) := by decide +kernel
theorem dX3_readSum_6 : decode cX3_readSum 6 = .ok (.iconst 0, 1) := by decide +kernel
theorem dX3_readSum_7 : decode cX3_readSum 7 = .ok (.istore_n 2, 1) := by decide +kernel
theorem dX3_readSum_8 : decode cX3_readSum 8 = .ok (.iload_n 2, 1) := by decide +kernel
theorem dX3_readSum_9 : decode cX3_readSum 9 = .ok (.sipush 400, 3) := by decide +kernel
theorem dX3_readSum_12 : decode cX3_readSum 12 = .ok (.if_icmp .ge 101, 3) := by decide +kernel
theorem dX3_readSum_15 : decode cX3_readSum 15 = .ok (.aload_n 0, 1) := by decide +kernel
theorem dX3_readSum_16 : decode cX3_readSum 16 = .ok (.getfield 22, 3) := by decide +kernel
theorem dX3_readSum_19 : decode cX3_readSum 19 = .ok (.getfield 34, 3) := by decide +kernel
theorem dX3_readSum_22 : decode cX3_readSum 22 = .ok (.ifCond .ne 91, 3) := by decide +kernel
theorem dX3_readSum_25 : decode cX3_readSum 25 = .ok (.aload_n 0, 1) := by decide +kernel
theorem dX3_readSum_26 : decode cX3_readSum 26 = .ok (.getfield 22, 3) := by decide +kernel
theorem dX3_readSum_29 : decode cX3_readSum 29 = .ok (.getfield 44, 3) := by decide +kernel
theorem dX3_readSum_32 : decode cX3_readSum 32 = .ok (.invokestatic 86, 3) := by decide +kernel
theorem dX3_readSum_35 : decode cX3_readSum 35 = .ok (.ifCond .eq 78, 3) := by decide +kernel
theorem dX3_readSum_38 : decode cX3_readSum 38 = .ok (.aload_n 0, 1) := by decide +kernel
theorem dX3_readSum_39 : decode cX3_readSum 39 = .ok (.getfield 22, 3) := by decide +kernel
theorem dX3_readSum_42 : decode cX3_readSum 42 = .ok (.getfield 44, 3) := by decide +kernel
theorem dX3_readSum_45 : decode cX3_readSum 45 = .ok (.istore_n 3, 1) := by decide +kernel
theorem dX3_readSum_46 : decode cX3_readSum 46 = .ok (.iload_n 3, 1) := by decide +kernel
theorem dX3_readSum_47 : decode cX3_readSum 47 = .ok (.bipush 43, 2) := by decide +kernel
theorem dX3_readSum_49 : decode cX3_readSum 49 = .ok (.if_icmp .eq 9, 3) := by decide +kernel
theorem dX3_readSum_52 : decode cX3_readSum 52 = .ok (.iload_n 3, 1) := by decide +kernel
theorem dX3_readSum_53 : decode cX3_readSum 53 = .ok (.bipush 45, 2) := by decide +kernel
theorem dX3_readSum_55 : decode cX3_readSum 55 = .ok (.if_icmp .ne 7, 3) := by decide +kernel
theorem dX3_readSum_58 : decode cX3_readSum 58 = .ok (.iconst 1, 1) := by decide +kernel
theorem dX3_readSum_59 : decode cX3_readSum 59 = .ok (.goto 4, 3) := by decide +kernel
theorem dX3_readSum_62 : decode cX3_readSum 62 = .ok (.iconst 0, 1) := by decide +kernel
theorem dX3_readSum_63 : decode cX3_readSum 63 = .ok (.istore 4, 2) := by decide +kernel
theorem dX3_readSum_65 : decode cX3_readSum 65 = .ok (.iload 4, 2) := by decide +kernel
theorem dX3_readSum_67 : decode cX3_readSum 67 = .ok (.ifCond .eq 13, 3) := by decide +kernel
theorem dX3_readSum_70 : decode cX3_readSum 70 = .ok (.iload_n 1, 1) := by decide +kernel
theorem dX3_readSum_71 : decode cX3_readSum 71 = .ok (.ifCond .eq 9, 3) := by decide +kernel
theorem dX3_readSum_74 : decode cX3_readSum 74 = .ok (.aload_n 0, 1) := by decide +kernel
theorem dX3_readSum_75 : decode cX3_readSum 75 = .ok (.iload_n 1, 1) := by decide +kernel
theorem dX3_readSum_76 : decode cX3_readSum 76 = .ok (.ineg, 1) := by decide +kernel
theorem dX3_readSum_77 : decode cX3_readSum 77 = .ok (.invokevirtual 53, 3) := by decide +kernel
theorem dX3_readSum_80 : decode cX3_readSum 80 = .ok (.aload_n 0, 1) := by decide +kernel
theorem dX3_readSum_81 : decode cX3_readSum 81 = .ok (.getfield 22, 3) := by decide +kernel
theorem dX3_readSum_84 : decode cX3_readSum 84 = .ok (.invokevirtual 47, 3) := by decide +kernel
theorem dX3_readSum_87 : decode cX3_readSum 87 = .ok (.aload_n 0, 1) := by decide +kernel
theorem dX3_readSum_88 : decode cX3_readSum 88 = .ok (.invokevirtual 83, 3) := by decide +kernel
theorem dX3_readSum_91 : decode cX3_readSum 91 = .ok (.iload 4, 2) := by decide +kernel
theorem dX3_readSum_93 : decode cX3_readSum 93 = .ok (.ifCond .eq 8, 3) := by decide +kernel
theorem dX3_readSum_96 : decode cX3_readSum 96 = .ok (.iload_n 3, 1) := by decide +kernel
theorem dX3_readSum_97 : decode cX3_readSum 97 = .ok (.istore_n 1, 1) := by decide +kernel
theorem dX3_readSum_98 : decode cX3_readSum 98 = .ok (.goto 9, 3) := by decide +kernel
theorem dX3_readSum_101 : decode cX3_readSum 101 = .ok (.aload_n 0, 1) := by decide +kernel
theorem dX3_readSum_102 : decode cX3_readSum 102 = .ok (.iload_n 3, 1) := by decide +kernel
theorem dX3_readSum_103 : decode cX3_readSum 103 = .ok (.ineg, 1) := by decide +kernel
theorem dX3_readSum_104 : decode cX3_readSum 104 = .ok (.invokevirtual 53, 3) := by decide +kernel
theorem dX3_readSum_107 : decode cX3_readSum 107 = .ok (.iinc 2 1, 3) := by decide +kernel
theorem dX3_readSum_110 : decode cX3_readSum 110 = .ok (.goto (-102), 3) := by decide +kernel
theorem dX3_readSum_113 : decode cX3_readSum 113 = .ok (.iload_n 1, 1) := by decide +kernel
theorem dX3_readSum_114 : decode cX3_readSum 114 = .ok (.ifCond .eq 9, 3) := by decide +kernel
theorem dX3_readSum_117 : decode cX3_readSum 117 = .ok (.aload_n 0, 1) := by decide +kernel
theorem dX3_readSum_118 : decode cX3_readSum 118 = .ok (.iload_n 1, 1) := by decide +kernel
theorem dX3_readSum_119 : decode cX3_readSum 119 = .ok (.ineg, 1) := by decide +kernel
theorem dX3_readSum_120 : decode cX3_readSum 120 = .ok (.invokevirtual 53, 3) := by decide +kernel
theorem dX3_readSum_123 : decode cX3_readSum 123 = .ok (.return_, 1) := by decide +kernel
def F_X3_readSum_8 (G : GG) (v0 : Nat) (K_113 : Int32 → AH → Option (AH)) (self_8 : Int32 → Int32 → AH → Option (AH)) (v1 : Int32) (v2 : Int32) (h : AH) : Option (AH) :=
if (400 : Int32) ≤ v2 then (K_113 v1 h) else
ck (m_t h v0 = .inl 3) <|
ob (m_r h v0 0) fun b6 =>
ck (m_t h b6 = .inl 8) <|
if (m_i h b6 9) = 0 then (ob (m_r h v0 0) fun b9 =>
ck (m_t h b9 = .inl 8) <|
cb (f_X3_isReckoning G (m_i h b9 7) h) fun r13 h11 =>
if r13 = 0 then (K_113 v1 h11) else
ck (m_t h11 v0 = .inl 3) <|
ob (m_r h11 v0 0) fun b16 =>
ck (m_t h11 b16 = .inl 8) <|
nn (m_i h11 b16 7) fun x18 =>
nn (fun (s0_63 : Int32) => (nn (fun (h_80 : AH) => (ck (m_t h_80 v0 = .inl 3) <|
ob (m_r h_80 v0 0) fun b20 =>
ck (m_t h_80 b20 = .inl 8) <|
ob (f_X8_advance G b20 h_80) fun h22 =>
ck (m_t h22 v0 = .inl 3) <|
ob (f_X3_readValue G v0 h22) fun h25 =>
nn (fun (v1_107 : Int32) (h_107 : AH) => (nn (v2 + (1 : Int32)) fun x27 =>
self_8 v1_107 x27 h_107)) fun j_107 =>
if s0_63 = 0 then (ck (m_t h25 v0 = .inl 3) <|
ob (f_X3_write G v0 (-x18) h25) fun h30 =>
j_107 v1 h30) else
j_107 x18 h25)) fun j_80 =>
if s0_63 = 0 then (j_80 h11) else
if v1 = 0 then (j_80 h11) else
ob (f_X3_write G v0 (-v1) h11) fun h34 =>
j_80 h34)) fun j_63 =>
nn (fun (uu_58 : Unit) => (j_63 (1 : Int32))) fun j_58 =>
if x18 = (43 : Int32) then (j_58 ()) else
if x18 = (45 : Int32) then (j_58 ()) else
j_63 (0 : Int32)) else
K_113 v1 h
def f_X3_readSum (G : GG) (v0 : Nat) (h : AH) : Option (AH) :=
ck (m_t h v0 = .inl 3) <|
ob (f_X3_readValue G v0 h) fun h2 =>
lq2 (F_X3_readSum_8 G v0 (fun (v1_113 : Int32) (h_113 : AH) => (if v1_113 = 0 then (some h_113) else
ck (m_t h_113 v0 = .inl 3) <|
ob (f_X3_write G v0 (-v1_113) h_113) fun h40 =>
some h40))) bN (0 : Int32) (0 : Int32) h2
set_option maxHeartbeats 4000000 in
set_option maxRecDepth 100000 in
theorem el_X3_readSum_8 {G : GG} {p : Program} {l : Launch} {e : Env} {s : State} {m : MethodId} {args : Array Value} {below : List Frame} {meth : Method} {c : Code} {y : AH} (C : Cx G cX3_readSum RX3 p s m args meth c) (hm : c.maxLocals = 5) (hr : meth.sig.returnType = none) (hin : meth.name = yX3_readSum.name) {v0 : Nat} {K_113 : Int32 → AH → Option (AH)} (hK_113 : ∀ (u1 : Int32) (h : AH), K_113 u1 h = some y → EE G p l e ({ frames := 2, cells := 0, slots := 0, locals := 43 } : Room) s m args below meth c (none, y) 0 0 113 [(0, .ref v0), (1, .int u1)] [] h 0 0) :
    ∀ (n : Nat) (v1 : Int32) (v2 : Int32) (h : AH), lq2 (F_X3_readSum_8 G v0 K_113) n v1 v2 h = some y → EE G p l e ({ frames := 2, cells := 0, slots := 0, locals := 43 } : Room) s m args below meth c (none, y) 0 0 8 [(0, .ref v0), (1, .int v1), (2, .int v2)] [] h 0 0 := by
  intro n
  induction n with
  | zero => intro v1 v2 h hf; exact (no_e hf).elim
  | succ n ih_8 =>
    intro v1 v2 h hf
    have hf : F_X3_readSum_8 G v0 K_113 (lq2 (F_X3_readSum_8 G v0 K_113) n) v1 v2 h = some y := hf
    generalize lq2 (F_X3_readSum_8 G v0 K_113) n = self_8 at hf ih_8
    unfold F_X3_readSum_8 at hf
    refine e_iload_n (pc := 8) C dX3_readSum_8 2 rfl rfl ?_
    refine e_sipush (v := (400 : Int32)) (pc := 9) C dX3_readSum_9 (by decide) ?_
    rcases it_e hf with ⟨c4, hf⟩ | ⟨c4, hf⟩
    · refine e_icmp_ge (pc := 12) (tgt := 113) C dX3_readSum_12 (by decide) (fun _ => ?_) (fun q => absurd c4 q)
      refine e_lv (lv2 := [(0, .ref v0), (1, .int v1)]) [0, 1] rfl ?_
      exact hK_113 v1 h hf
    · refine e_icmp_ge (pc := 12) (tgt := 113) C dX3_readSum_12 (by decide) (fun q => absurd q c4) (fun _ => ?_)
      refine e_aload_n (pc := 15) C dX3_readSum_15 0 rfl rfl ?_
      obtain ⟨t5, hf⟩ := ck_e hf
      refine e_getr (pc := 16) 3 0 C dX3_readSum_16 (by decide) (by decide) g240 rfl t5 ?_
      obtain ⟨b6, eb6, hf⟩ := ob_e hf
      refine e_rf eb6 ?_
      obtain ⟨t7, hf⟩ := ck_e hf
      refine e_getiN (pc := 19) 8 9 C dX3_readSum_19 (by decide) (by decide) g195 rfl t7 ?_
      rcases it_e hf with ⟨c8, hf⟩ | ⟨c8, hf⟩
      · refine e_if_ne (pc := 22) (tgt := 113) C dX3_readSum_22 (by decide) (fun q => absurd c8 q) (fun _ => ?_)
        refine e_aload_n (pc := 25) C dX3_readSum_25 0 rfl rfl ?_
        refine e_getr (pc := 26) 3 0 C dX3_readSum_26 (by decide) (by decide) g240 rfl t5 ?_
        obtain ⟨b9, eb9, hf⟩ := ob_e hf
        refine e_rf eb9 ?_
        obtain ⟨t10, hf⟩ := ck_e hf
        refine e_getiN (pc := 29) 8 7 C dX3_readSum_29 (by decide) (by decide) g191 rfl t10 ?_
        obtain ⟨r13, h11, y12, hf⟩ := cb_e hf
        refine e_callSi (pc := 32) (st := []) C (ct_X3_isReckoning y12) dX3_readSum_32 g831 g832 g149 g833 hd_X3_isReckoning rfl ⟨Nat.le_of_ble_eq_true rfl, Nat.le_of_ble_eq_true rfl⟩ ⟨Nat.le_of_ble_eq_true rfl, Nat.le_of_ble_eq_true rfl⟩ rfl (Nat.le_of_ble_eq_true rfl) ?_
        rcases it_e hf with ⟨c14, hf⟩ | ⟨c14, hf⟩
        · refine e_if_eq (pc := 35) (tgt := 113) C dX3_readSum_35 (by decide) (fun _ => ?_) (fun q => absurd c14 q)
          refine e_lv (lv2 := [(0, .ref v0), (1, .int v1)]) [0, 1] rfl ?_
          exact hK_113 v1 h11 hf
        · refine e_if_eq (pc := 35) (tgt := 113) C dX3_readSum_35 (by decide) (fun q => absurd q c14) (fun _ => ?_)
          refine e_aload_n (pc := 38) C dX3_readSum_38 0 rfl rfl ?_
          obtain ⟨t15, hf⟩ := ck_e hf
          refine e_getr (pc := 39) 3 0 C dX3_readSum_39 (by decide) (by decide) g240 rfl t15 ?_
          obtain ⟨b16, eb16, hf⟩ := ob_e hf
          refine e_rf eb16 ?_
          obtain ⟨t17, hf⟩ := ck_e hf
          refine e_getiN (pc := 42) 8 7 C dX3_readSum_42 (by decide) (by decide) g191 rfl t17 ?_
          obtain ⟨x18, ex18, hf⟩ := nn_e hf
          refine e_topi ex18 ?_
          refine e_istore_n (pc := 45) (lv2 := [(3, .int x18), (0, .ref v0), (1, .int v1), (2, .int v2)]) C hm dX3_readSum_45 rfl (by decide) rfl ?_
          refine e_iload_n (pc := 46) C dX3_readSum_46 0 rfl rfl ?_
          refine e_bipush (v := (43 : Int32)) (pc := 47) C dX3_readSum_47 (by decide) ?_
          obtain ⟨j_63, ej_63, hf⟩ := nn_e hf
          have W_63 : ∀ (s0_63 : Int32), j_63 s0_63 = some y → EE G p l e ({ frames := 2, cells := 0, slots := 0, locals := 43 } : Room) s m args below meth c (none, y) 0 0 63 [(0, .ref v0), (1, .int v1), (2, .int v2), (3, .int x18)] [.int s0_63] h11 0 0 := by
            intro s0_63 hf
            rw [ej_63] at hf
            refine e_istore (pc := 63) (lv2 := [(4, .int s0_63), (0, .ref v0), (1, .int v1), (2, .int v2), (3, .int x18)]) C hm dX3_readSum_63 (by decide) rfl ?_
            refine e_iload (pc := 65) C dX3_readSum_65 0 rfl ?_
            obtain ⟨j_80, ej_80, hf⟩ := nn_e hf
            have W_80 : ∀ (h_80 : AH), j_80 h_80 = some y → EE G p l e ({ frames := 2, cells := 0, slots := 0, locals := 43 } : Room) s m args below meth c (none, y) 0 0 80 [(0, .ref v0), (1, .int v1), (2, .int v2), (3, .int x18), (4, .int s0_63)] [] h_80 0 0 := by
              intro h_80 hf
              rw [ej_80] at hf
              refine e_aload_n (pc := 80) C dX3_readSum_80 0 rfl rfl ?_
              obtain ⟨t19, hf⟩ := ck_e hf
              refine e_getr (pc := 81) 3 0 C dX3_readSum_81 (by decide) (by decide) g240 rfl t19 ?_
              obtain ⟨b20, eb20, hf⟩ := ob_e hf
              refine e_rf eb20 ?_
              obtain ⟨t21, hf⟩ := ck_e hf
              obtain ⟨h22, y23, hf⟩ := ob_e hf
              refine e_callVv (pc := 84) (st := []) 8 C (ct_X8_advance y23) dX3_readSum_84 (by decide) t21 g818 g715 g716 g147 g717 hd_X8_advance rfl ⟨Nat.le_of_ble_eq_true rfl, Nat.le_of_ble_eq_true rfl⟩ ⟨Nat.le_of_ble_eq_true rfl, Nat.le_of_ble_eq_true rfl⟩ rfl (Nat.le_of_ble_eq_true rfl) ?_
              refine e_aload_n (pc := 87) C dX3_readSum_87 0 rfl rfl ?_
              obtain ⟨t24, hf⟩ := ck_e hf
              obtain ⟨h25, y26, hf⟩ := ob_e hf
              refine e_callVv (pc := 88) (st := []) 3 C (ct_X3_readValue y26) dX3_readSum_88 (by decide) t24 g823 g825 g18 g149 g826 hd_X3_readValue rfl ⟨Nat.le_of_ble_eq_true rfl, Nat.le_of_ble_eq_true rfl⟩ ⟨Nat.le_of_ble_eq_true rfl, Nat.le_of_ble_eq_true rfl⟩ rfl (Nat.le_of_ble_eq_true rfl) ?_
              refine e_iload (pc := 91) C dX3_readSum_91 4 rfl ?_
              obtain ⟨j_107, ej_107, hf⟩ := nn_e hf
              have W_107 : ∀ (v1_107 : Int32) (h_107 : AH), j_107 v1_107 h_107 = some y → EE G p l e ({ frames := 2, cells := 0, slots := 0, locals := 43 } : Room) s m args below meth c (none, y) 0 0 107 [(0, .ref v0), (1, .int v1_107), (2, .int v2)] [] h_107 0 0 := by
                intro v1_107 h_107 hf
                rw [ej_107] at hf
                obtain ⟨x27, ex27, hf⟩ := nn_e hf
                refine e_iinc (pc := 107) (v := x27) (lv2 := [(2, .int x27), (0, .ref v0), (1, .int v1_107)]) C hm dX3_readSum_107 2 rfl (by rw [ex27]; rfl) (by decide) rfl ?_
                refine e_goto (pc := 110) (tgt := 8) C dX3_readSum_110 (by decide) ?_
                refine e_lv (lv2 := [(0, .ref v0), (1, .int v1_107), (2, .int x27)]) [1, 2, 0] rfl ?_
                exact ih_8 v1_107 x27 h_107 hf
              rcases it_e hf with ⟨c28, hf⟩ | ⟨c28, hf⟩
              · refine e_if_eq (pc := 93) (tgt := 101) C dX3_readSum_93 (by decide) (fun _ => ?_) (fun q => absurd c28 q)
                refine e_aload_n (pc := 101) C dX3_readSum_101 0 rfl rfl ?_
                refine e_iload_n (pc := 102) C dX3_readSum_102 3 rfl rfl ?_
                refine e_ineg (pc := 103) C dX3_readSum_103 ?_
                obtain ⟨t29, hf⟩ := ck_e hf
                obtain ⟨h30, y31, hf⟩ := ob_e hf
                refine e_callVv (pc := 104) (st := []) 3 C (ct_X3_write y31) dX3_readSum_104 (by decide) t29 g827 g829 g19 g149 g830 hd_X3_write rfl ⟨Nat.le_of_ble_eq_true rfl, Nat.le_of_ble_eq_true rfl⟩ ⟨Nat.le_of_ble_eq_true rfl, Nat.le_of_ble_eq_true rfl⟩ rfl (Nat.le_of_ble_eq_true rfl) ?_
                refine e_lv (lv2 := [(0, .ref v0), (1, .int v1), (2, .int v2)]) [0, 1, 2] rfl ?_
                exact W_107 v1 h30 hf
              · refine e_if_eq (pc := 93) (tgt := 101) C dX3_readSum_93 (by decide) (fun q => absurd q c28) (fun _ => ?_)
                refine e_iload_n (pc := 96) C dX3_readSum_96 3 rfl rfl ?_
                refine e_istore_n (pc := 97) (lv2 := [(1, .int x18), (0, .ref v0), (2, .int v2), (3, .int x18), (4, .int s0_63)]) C hm dX3_readSum_97 rfl (by decide) rfl ?_
                refine e_goto (pc := 98) (tgt := 107) C dX3_readSum_98 (by decide) ?_
                refine e_lv (lv2 := [(0, .ref v0), (1, .int x18), (2, .int v2)]) [1, 0, 2] rfl ?_
                exact W_107 x18 h25 hf
            rcases it_e hf with ⟨c32, hf⟩ | ⟨c32, hf⟩
            · refine e_if_eq (pc := 67) (tgt := 80) C dX3_readSum_67 (by decide) (fun _ => ?_) (fun q => absurd c32 q)
              refine e_lv (lv2 := [(0, .ref v0), (1, .int v1), (2, .int v2), (3, .int x18), (4, .int s0_63)]) [1, 2, 3, 4, 0] rfl ?_
              exact W_80 h11 hf
            · refine e_if_eq (pc := 67) (tgt := 80) C dX3_readSum_67 (by decide) (fun q => absurd q c32) (fun _ => ?_)
              refine e_iload_n (pc := 70) C dX3_readSum_70 2 rfl rfl ?_
              rcases it_e hf with ⟨c33, hf⟩ | ⟨c33, hf⟩
              · refine e_if_eq (pc := 71) (tgt := 80) C dX3_readSum_71 (by decide) (fun _ => ?_) (fun q => absurd c33 q)
                refine e_lv (lv2 := [(0, .ref v0), (1, .int v1), (2, .int v2), (3, .int x18), (4, .int s0_63)]) [1, 2, 3, 4, 0] rfl ?_
                exact W_80 h11 hf
              · refine e_if_eq (pc := 71) (tgt := 80) C dX3_readSum_71 (by decide) (fun q => absurd q c33) (fun _ => ?_)
                refine e_aload_n (pc := 74) C dX3_readSum_74 1 rfl rfl ?_
                refine e_iload_n (pc := 75) C dX3_readSum_75 2 rfl rfl ?_
                refine e_ineg (pc := 76) C dX3_readSum_76 ?_
                obtain ⟨h34, y35, hf⟩ := ob_e hf
                refine e_callVv (pc := 77) (st := []) 3 C (ct_X3_write y35) dX3_readSum_77 (by decide) t15 g827 g829 g19 g149 g830 hd_X3_write rfl ⟨Nat.le_of_ble_eq_true rfl, Nat.le_of_ble_eq_true rfl⟩ ⟨Nat.le_of_ble_eq_true rfl, Nat.le_of_ble_eq_true rfl⟩ rfl (Nat.le_of_ble_eq_true rfl) ?_
                refine e_lv (lv2 := [(0, .ref v0), (1, .int v1), (2, .int v2), (3, .int x18), (4, .int s0_63)]) [1, 2, 3, 4, 0] rfl ?_
                exact W_80 h34 hf
          obtain ⟨j_58, ej_58, hf⟩ := nn_e hf
          have W_58 : ∀ (uu_58 : Unit), j_58 uu_58 = some y → EE G p l e ({ frames := 2, cells := 0, slots := 0, locals := 43 } : Room) s m args below meth c (none, y) 0 0 58 [(0, .ref v0), (1, .int v1), (2, .int v2), (3, .int x18)] [] h11 0 0 := by
            intro uu_58 hf
            rw [ej_58] at hf
            refine e_iconst (v := (1 : Int32)) (pc := 58) C dX3_readSum_58 (by decide) ?_
            refine e_goto (pc := 59) (tgt := 63) C dX3_readSum_59 (by decide) ?_
            exact W_63 (1 : Int32) hf
          rcases it_e hf with ⟨c36, hf⟩ | ⟨c36, hf⟩
          · refine e_icmp_eq (pc := 49) (tgt := 58) C dX3_readSum_49 (by decide) (fun _ => ?_) (fun q => absurd c36 q)
            refine e_lv (lv2 := [(0, .ref v0), (1, .int v1), (2, .int v2), (3, .int x18)]) [1, 2, 3, 0] rfl ?_
            exact W_58 () hf
          · refine e_icmp_eq (pc := 49) (tgt := 58) C dX3_readSum_49 (by decide) (fun q => absurd q c36) (fun _ => ?_)
            refine e_iload_n (pc := 52) C dX3_readSum_52 0 rfl rfl ?_
            refine e_bipush (v := (45 : Int32)) (pc := 53) C dX3_readSum_53 (by decide) ?_
            rcases it_e hf with ⟨c37, hf⟩ | ⟨c37, hf⟩
            · refine e_icmp_ne (pc := 55) (tgt := 62) C dX3_readSum_55 (by decide) (fun q => absurd c37 q) (fun _ => ?_)
              refine e_lv (lv2 := [(0, .ref v0), (1, .int v1), (2, .int v2), (3, .int x18)]) [1, 2, 3, 0] rfl ?_
              exact W_58 () hf
            · refine e_icmp_ne (pc := 55) (tgt := 62) C dX3_readSum_55 (by decide) (fun _ => ?_) (fun q => absurd q c37)
              refine e_iconst (v := (0 : Int32)) (pc := 62) C dX3_readSum_62 (by decide) ?_
              refine e_lv (lv2 := [(0, .ref v0), (1, .int v1), (2, .int v2), (3, .int x18)]) [1, 2, 3, 0] rfl ?_
              exact W_63 (0 : Int32) hf
      · refine e_if_ne (pc := 22) (tgt := 113) C dX3_readSum_22 (by decide) (fun _ => ?_) (fun q => absurd q c8)
        refine e_lv (lv2 := [(0, .ref v0), (1, .int v1)]) [0, 1] rfl ?_
        exact hK_113 v1 h hf
set_option maxHeartbeats 4000000 in
set_option maxRecDepth 100000 in
theorem ct_X3_readSum {G : GG} {l : Launch} {v0 : Nat} {h : AH} {y : AH} (hf : f_X3_readSum G v0 h = some y) : Ct G l yX3_readSum cX3_readSum 5 none 2 43 0 0 [.ref v0] h (none, y) := by
  refine ct_of (by decide) (Nat.le_of_ble_eq_true rfl) ?_
  intro p e s m args below meth c C hm hr hin
  have C : Cx G cX3_readSum RX3 p s m args meth c := C
  refine e_lv (lv2 := [(0, .ref v0)]) [0] rfl ?_
  unfold f_X3_readSum at hf
  refine e_aload_n (pc := 0) C dX3_readSum_0 0 rfl rfl ?_
  obtain ⟨t1, hf⟩ := ck_e hf
  obtain ⟨h2, y3, hf⟩ := ob_e hf
  refine e_callVv (pc := 1) (st := []) 3 C (ct_X3_readValue y3) dX3_readSum_1 (by decide) t1 g823 g825 g18 g149 g826 hd_X3_readValue rfl ⟨Nat.le_of_ble_eq_true rfl, Nat.le_of_ble_eq_true rfl⟩ ⟨Nat.le_of_ble_eq_true rfl, Nat.le_of_ble_eq_true rfl⟩ rfl (Nat.le_of_ble_eq_true rfl) ?_
  refine e_iconst (v := (0 : Int32)) (pc := 4) C dX3_readSum_4 (by decide) ?_
  refine e_istore_n (pc := 5) (lv2 := [(1, .int (0 : Int32)), (0, .ref v0)]) C hm dX3_readSum_5 rfl (by decide) rfl ?_
  refine e_iconst (v := (0 : Int32)) (pc := 6) C dX3_readSum_6 (by decide) ?_
  refine e_istore_n (pc := 7) (lv2 := [(2, .int (0 : Int32)), (1, .int (0 : Int32)), (0, .ref v0)]) C hm dX3_readSum_7 rfl (by decide) rfl ?_
  refine e_lv (lv2 := [(0, .ref v0), (1, .int (0 : Int32)), (2, .int (0 : Int32))]) [2, 1, 0] rfl ?_
  refine el_X3_readSum_8 C hm hr hin (fun v1_113 h_113 hf => ?_) bN (0 : Int32) (0 : Int32) h2 hf
  refine e_iload_n (pc := 113) C dX3_readSum_113 1 rfl rfl ?_
  rcases it_e hf with ⟨c38, hf⟩ | ⟨c38, hf⟩
  · refine e_if_eq (pc := 114) (tgt := 123) C dX3_readSum_114 (by decide) (fun _ => ?_) (fun q => absurd c38 q)
    obtain rfl := so_e hf
    exact e_vret (pc := 123) C hr dX3_readSum_123 (Nat.le_of_ble_eq_true rfl) (Nat.le_of_ble_eq_true rfl)
  · refine e_if_eq (pc := 114) (tgt := 123) C dX3_readSum_114 (by decide) (fun q => absurd q c38) (fun _ => ?_)
    refine e_aload_n (pc := 117) C dX3_readSum_117 0 rfl rfl ?_
    refine e_iload_n (pc := 118) C dX3_readSum_118 1 rfl rfl ?_
    refine e_ineg (pc := 119) C dX3_readSum_119 ?_
    obtain ⟨t39, hf⟩ := ck_e hf
    obtain ⟨h40, y41, hf⟩ := ob_e hf
    refine e_callVv (pc := 120) (st := []) 3 C (ct_X3_write y41) dX3_readSum_120 (by decide) t39 g827 g829 g19 g149 g830 hd_X3_write rfl ⟨Nat.le_of_ble_eq_true rfl, Nat.le_of_ble_eq_true rfl⟩ ⟨Nat.le_of_ble_eq_true rfl, Nat.le_of_ble_eq_true rfl⟩ rfl (Nat.le_of_ble_eq_true rfl) ?_
    obtain rfl := so_e hf
    exact e_vret (pc := 123) C hr dX3_readSum_123 (Nat.le_of_ble_eq_true rfl) (Nat.le_of_ble_eq_true rfl)
theorem dX3_isJoint_0 : decode cX3_isJoint 0 = .ok (.iload_n 0, 1) := by decide +kernel
theorem dX3_isJoint_1 : decode cX3_isJoint 1 = .ok (.sipush 315, 3) := by decide +kernel
theorem dX3_isJoint_4 : decode cX3_isJoint 4 = .ok (.if_icmp .eq 10, 3) := by decide +kernel
theorem dX3_isJoint_7 : decode cX3_isJoint 7 = .ok (.iload_n 0, 1) := by decide +kernel
theorem dX3_isJoint_8 : decode cX3_isJoint 8 = .ok (.sipush 316, 3) := by decide +kernel
theorem dX3_isJoint_11 : decode cX3_isJoint 11 = .ok (.if_icmp .ne 7, 3) := by decide +kernel
theorem dX3_isJoint_14 : decode cX3_isJoint 14 = .ok (.iconst 1, 1) := by decide +kernel
theorem dX3_isJoint_15 : decode cX3_isJoint 15 = .ok (.goto 4, 3) := by decide +kernel
theorem dX3_isJoint_18 : decode cX3_isJoint 18 = .ok (.iconst 0, 1) := by decide +kernel
theorem dX3_isJoint_19 : decode cX3_isJoint 19 = .ok (.ireturn, 1) := by decide +kernel
def f_X3_isJoint (G : GG) (v0 : Int32) (h : AH) : Option (Int32 × AH) :=
if v0 = (315 : Int32) then (some ((1 : Int32), h)) else
if v0 = (316 : Int32) then (some ((1 : Int32), h)) else
some ((0 : Int32), h)
set_option maxHeartbeats 4000000 in
set_option maxRecDepth 100000 in
theorem ct_X3_isJoint {G : GG} {l : Launch} {v0 : Int32} {h : AH} {y : Int32 × AH} (hf : f_X3_isJoint G v0 h = some y) : Ct G l yX3_isJoint cX3_isJoint 1 (some .boolean) 0 0 0 0 [.int v0] h (some (.int y.1), y.2) := by
  refine ct_of (by decide) (Nat.le_of_ble_eq_true rfl) ?_
  intro p e s m args below meth c C hm hr hin
  have C : Cx G cX3_isJoint RX3 p s m args meth c := C
  refine e_lv (lv2 := [(0, .int v0)]) [0] rfl ?_
  unfold f_X3_isJoint at hf
  refine e_iload_n (pc := 0) C dX3_isJoint_0 0 rfl rfl ?_
  refine e_sipush (v := (315 : Int32)) (pc := 1) C dX3_isJoint_1 (by decide) ?_
  rcases it_e hf with ⟨c1, hf⟩ | ⟨c1, hf⟩
  · refine e_icmp_eq (pc := 4) (tgt := 14) C dX3_isJoint_4 (by decide) (fun _ => ?_) (fun q => absurd c1 q)
    refine e_iconst (v := (1 : Int32)) (pc := 14) C dX3_isJoint_14 (by decide) ?_
    refine e_goto (pc := 15) (tgt := 19) C dX3_isJoint_15 (by decide) ?_
    obtain rfl := so_e hf
    exact e_zret (pc := 19) (v := (1 : Int32)) C hr (nz_ok (by decide)) dX3_isJoint_19 (Nat.le_of_ble_eq_true rfl) (Nat.le_of_ble_eq_true rfl)
  · refine e_icmp_eq (pc := 4) (tgt := 14) C dX3_isJoint_4 (by decide) (fun q => absurd q c1) (fun _ => ?_)
    refine e_iload_n (pc := 7) C dX3_isJoint_7 0 rfl rfl ?_
    refine e_sipush (v := (316 : Int32)) (pc := 8) C dX3_isJoint_8 (by decide) ?_
    rcases it_e hf with ⟨c2, hf⟩ | ⟨c2, hf⟩
    · refine e_icmp_ne (pc := 11) (tgt := 18) C dX3_isJoint_11 (by decide) (fun q => absurd c2 q) (fun _ => ?_)
      refine e_iconst (v := (1 : Int32)) (pc := 14) C dX3_isJoint_14 (by decide) ?_
      refine e_goto (pc := 15) (tgt := 19) C dX3_isJoint_15 (by decide) ?_
      obtain rfl := so_e hf
      exact e_zret (pc := 19) (v := (1 : Int32)) C hr (nz_ok (by decide)) dX3_isJoint_19 (Nat.le_of_ble_eq_true rfl) (Nat.le_of_ble_eq_true rfl)
    · refine e_icmp_ne (pc := 11) (tgt := 18) C dX3_isJoint_11 (by decide) (fun _ => ?_) (fun q => absurd q c2)
      refine e_iconst (v := (0 : Int32)) (pc := 18) C dX3_isJoint_18 (by decide) ?_
      obtain rfl := so_e hf
      exact e_zret (pc := 19) (v := (0 : Int32)) C hr (nz_ok (by decide)) dX3_isJoint_19 (Nat.le_of_ble_eq_true rfl) (Nat.le_of_ble_eq_true rfl)
theorem dX2_init_0 : decode cX2_init 0 = .ok (.aload_n 0, 1) := by decide +kernel
theorem dX2_init_1 : decode cX2_init 1 = .ok (.invokespecial 3, 3) := by decide +kernel
theorem dX2_init_4 : decode cX2_init 4 = .ok (.aload_n 0, 1) := by decide +kernel
theorem dX2_init_5 : decode cX2_init 5 = .ok (.bipush 64, 2) := by decide +kernel
theorem dX2_init_7 : decode cX2_init 7 = .ok (.newarray .long, 2) := by decide +kernel
theorem dX2_init_9 : decode cX2_init 9 = .ok (.putfield 11, 3) := by decide +kernel
theorem dX2_init_12 : decode cX2_init 12 = .ok (.aload_n 0, 1) := by decide +kernel
theorem dX2_init_13 : decode cX2_init 13 = .ok (.iconst 0, 1) := by decide +kernel
theorem dX2_init_14 : decode cX2_init 14 = .ok (.putfield 15, 3) := by decide +kernel
theorem dX2_init_17 : decode cX2_init 17 = .ok (.aload_n 0, 1) := by decide +kernel
theorem dX2_init_18 : decode cX2_init 18 = .ok (.bipush 6, 2) := by decide +kernel
theorem dX2_init_20 : decode cX2_init 20 = .ok (.newarray .int, 2) := by decide +kernel
theorem dX2_init_22 : decode cX2_init 22 = .ok (.putfield 19, 3) := by decide +kernel
theorem dX2_init_25 : decode cX2_init 25 = .ok (.aload_n 0, 1) := by decide +kernel
theorem dX2_init_26 : decode cX2_init 26 = .ok (.iconst 0, 1) := by decide +kernel
theorem dX2_init_27 : decode cX2_init 27 = .ok (.putfield 23, 3) := by decide +kernel
theorem dX2_init_30 : decode cX2_init 30 = .ok (.aload_n 0, 1) := by decide +kernel
theorem dX2_init_31 : decode cX2_init 31 = .ok (.iconst (-1), 1) := by decide +kernel
theorem dX2_init_32 : decode cX2_init 32 = .ok (.putfield 26, 3) := by decide +kernel
theorem dX2_init_35 : decode cX2_init 35 = .ok (.aload_n 0, 1) := by decide +kernel
theorem dX2_init_36 : decode cX2_init 36 = .ok (.iconst 0, 1) := by decide +kernel
theorem dX2_init_37 : decode cX2_init 37 = .ok (.putfield 29, 3) := by decide +kernel
theorem dX2_init_40 : decode cX2_init 40 = .ok (.aload_n 0, 1) := by decide +kernel
theorem dX2_init_41 : decode cX2_init 41 = .ok (.aload_n 1, 1) := by decide +kernel
theorem dX2_init_42 : decode cX2_init 42 = .ok (.putfield 32, 3) := by decide +kernel
theorem dX2_init_45 : decode cX2_init 45 = .ok (.return_, 1) := by decide +kernel
def f_X2_init (G : GG) (v0 : Nat) (v1 : Nat) (h : AH) : Option (AH) :=
nn (m_n h) fun x1 =>
nn (m_new h (.inr (.long, 64))) fun h2 =>
ck (m_t h2 v0 = .inl 2) <|
nn (m_sr h2 v0 1 (some x1)) fun h4 =>
nn (m_si h4 v0 2 (0 : Int32)) fun h5 =>
nn (m_n h5) fun x6 =>
nn (m_new h5 (.inr (.int, 6))) fun h7 =>
ck (m_t h7 v0 = .inl 2) <|
nn (m_sr h7 v0 3 (some x6)) fun h9 =>
nn (m_si h9 v0 4 (0 : Int32)) fun h10 =>
nn (m_si h10 v0 5 (-1 : Int32)) fun h11 =>
nn (m_si h11 v0 6 (0 : Int32)) fun h12 =>
nn (m_sr h12 v0 0 (some v1)) fun h13 =>
some h13
set_option maxHeartbeats 4000000 in
set_option maxRecDepth 100000 in
theorem ct_X2_init {G : GG} {l : Launch} {v0 : Nat} {v1 : Nat} {h : AH} {y : AH} (hf : f_X2_init G v0 v1 h = some y) : Ct G l yX2_init cX2_init 2 none 1 24 2 70 [.ref v0, .ref v1] h (none, y) := by
  refine ct_of (by decide) (Nat.le_of_ble_eq_true rfl) ?_
  intro p e s m args below meth c C hm hr hin
  have C : Cx G cX2_init RX2 p s m args meth c := C
  refine e_lv (lv2 := [(0, .ref v0), (1, .ref v1)]) [0, 1] rfl ?_
  unfold f_X2_init at hf
  refine e_aload_n (pc := 0) C dX2_init_0 0 rfl rfl ?_
  refine e_objInit (pc := 1) C dX2_init_1 g871 g173 g174 (Nat.le_of_ble_eq_true rfl) (Nat.le_of_ble_eq_true rfl) ?_
  refine e_aload_n (pc := 4) C dX2_init_4 0 rfl rfl ?_
  refine e_bipush (v := (64 : Int32)) (pc := 5) C dX2_init_5 (by decide) ?_
  refine e_newl (pc := 7) C dX2_init_7 g894 (by decide) (N := 64) (by decide) (by decide) (Nat.le_of_ble_eq_true rfl) (Nat.le_of_ble_eq_true rfl) ?_
  obtain ⟨x1, ex1, hf⟩ := nn_e hf
  refine e_topr ex1 ?_
  obtain ⟨h2, eh2, hf⟩ := nn_e hf
  refine e_hp eh2 ?_
  obtain ⟨t3, hf⟩ := ck_e hf
  refine e_putrF (pc := 9) (x := some x1) 2 1 C hin dX2_init_9 (by decide) (by decide) g873 rfl rfl rfl rfl rfl t3 ?_
  obtain ⟨h4, eh4, hf⟩ := nn_e hf
  refine e_hp eh4 ?_
  have uh4 : m_t h4 = m_t h2 := by rw [eh4]; exact rfl
  refine e_aload_n (pc := 12) C dX2_init_12 0 rfl rfl ?_
  refine e_iconst (v := (0 : Int32)) (pc := 13) C dX2_init_13 (by decide) ?_
  refine e_puti (pc := 14) 2 2 C dX2_init_14 (by decide) (by decide) g874 rfl rfl rfl rfl (e_mt uh4 t3) ?_
  obtain ⟨h5, eh5, hf⟩ := nn_e hf
  refine e_hp eh5 ?_
  have uh5 : m_t h5 = m_t h2 := by rw [eh5]; exact uh4
  refine e_aload_n (pc := 17) C dX2_init_17 0 rfl rfl ?_
  refine e_bipush (v := (6 : Int32)) (pc := 18) C dX2_init_18 (by decide) ?_
  refine e_newi (pc := 20) C dX2_init_20 g220 (by decide) (N := 6) (by decide) (by decide) (Nat.le_of_ble_eq_true rfl) (Nat.le_of_ble_eq_true rfl) ?_
  obtain ⟨x6, ex6, hf⟩ := nn_e hf
  refine e_topr ex6 ?_
  obtain ⟨h7, eh7, hf⟩ := nn_e hf
  refine e_hp eh7 ?_
  obtain ⟨t8, hf⟩ := ck_e hf
  refine e_putrF (pc := 22) (x := some x6) 2 3 C hin dX2_init_22 (by decide) (by decide) g875 rfl rfl rfl rfl rfl t8 ?_
  obtain ⟨h9, eh9, hf⟩ := nn_e hf
  refine e_hp eh9 ?_
  have uh9 : m_t h9 = m_t h7 := by rw [eh9]; exact rfl
  refine e_aload_n (pc := 25) C dX2_init_25 0 rfl rfl ?_
  refine e_iconst (v := (0 : Int32)) (pc := 26) C dX2_init_26 (by decide) ?_
  refine e_puti (pc := 27) 2 4 C dX2_init_27 (by decide) (by decide) g876 rfl rfl rfl rfl (e_mt uh9 t8) ?_
  obtain ⟨h10, eh10, hf⟩ := nn_e hf
  refine e_hp eh10 ?_
  have uh10 : m_t h10 = m_t h7 := by rw [eh10]; exact uh9
  refine e_aload_n (pc := 30) C dX2_init_30 0 rfl rfl ?_
  refine e_iconst (v := (-1 : Int32)) (pc := 31) C dX2_init_31 (by decide) ?_
  refine e_puti (pc := 32) 2 5 C dX2_init_32 (by decide) (by decide) g877 rfl rfl rfl rfl (e_mt uh10 t8) ?_
  obtain ⟨h11, eh11, hf⟩ := nn_e hf
  refine e_hp eh11 ?_
  have uh11 : m_t h11 = m_t h7 := by rw [eh11]; exact uh10
  refine e_aload_n (pc := 35) C dX2_init_35 0 rfl rfl ?_
  refine e_iconst (v := (0 : Int32)) (pc := 36) C dX2_init_36 (by decide) ?_
  refine e_puti (pc := 37) 2 6 C dX2_init_37 (by decide) (by decide) g878 rfl rfl rfl rfl (e_mt uh11 t8) ?_
  obtain ⟨h12, eh12, hf⟩ := nn_e hf
  refine e_hp eh12 ?_
  have uh12 : m_t h12 = m_t h7 := by rw [eh12]; exact uh11
  refine e_aload_n (pc := 40) C dX2_init_40 0 rfl rfl ?_
  refine e_aload_n (pc := 41) C dX2_init_41 1 rfl rfl ?_
  refine e_putrF (pc := 42) (x := some v1) 2 0 C hin dX2_init_42 (by decide) (by decide) g872 rfl rfl rfl rfl rfl (e_mt uh12 t8) ?_
  obtain ⟨h13, eh13, hf⟩ := nn_e hf
  refine e_hp eh13 ?_
  have uh13 : m_t h13 = m_t h7 := by rw [eh13]; exact uh12
  obtain rfl := so_e hf
  exact e_vret (pc := 45) C hr dX2_init_45 (Nat.le_of_ble_eq_true rfl) (Nat.le_of_ble_eq_true rfl)
theorem dX3_readComparison_0 : decode cX3_readComparison 0 = .ok (.aload_n 0, 1) := by decide +kernel
theorem dX3_readComparison_1 : decode cX3_readComparison 1 = .ok (.invokevirtual 41, 3) := by decide +kernel
theorem dX3_readComparison_4 : decode cX3_readComparison 4 = .ok (.aload_n 0, 1) := by decide +kernel
theorem dX3_readComparison_5 : decode cX3_readComparison 5 = .ok (.getfield 22, 3) := by decide +kernel
theorem dX3_readComparison_8 : decode cX3_readComparison 8 = .ok (.getfield 44, 3) := by decide +kernel
theorem dX3_readComparison_11 : decode cX3_readComparison 11 = .ok (.istore_n 1, 1) := by decide +kernel
theorem dX3_readComparison_12 : decode cX3_readComparison 12 = .ok (.aload_n 0, 1) := by decide +kernel
theorem dX3_readComparison_13 : decode cX3_readComparison 13 = .ok (.dup, 1) := by decide +kernel
theorem dX3_readComparison_14 : decode cX3_readComparison 14 = .ok (.getfield 19, 3) := by decide +kernel
theorem dX3_readComparison_17 : decode cX3_readComparison 17 = .ok (.iconst 1, 1) := by decide +kernel
theorem dX3_readComparison_18 : decode cX3_readComparison 18 = .ok (.iadd, 1) := by decide +kernel
theorem dX3_readComparison_19 : decode cX3_readComparison 19 = .ok (.putfield 19, 3) := by decide +kernel
theorem dX3_readComparison_22 : decode cX3_readComparison 22 = .ok (.iload_n 1, 1) := by decide +kernel
theorem dX3_readComparison_23 : decode cX3_readComparison 23 = .ok (.bipush 60, 2) := by decide +kernel
theorem dX3_readComparison_25 : decode cX3_readComparison 25 = .ok (.if_icmp .eq 40, 3) := by decide +kernel
theorem dX3_readComparison_28 : decode cX3_readComparison 28 = .ok (.iload_n 1, 1) := by decide +kernel
theorem dX3_readComparison_29 : decode cX3_readComparison 29 = .ok (.sipush 259, 3) := by decide +kernel
theorem dX3_readComparison_32 : decode cX3_readComparison 32 = .ok (.if_icmp .eq 33, 3) := by decide +kernel
theorem dX3_readComparison_35 : decode cX3_readComparison 35 = .ok (.iload_n 1, 1) := by decide +kernel
theorem dX3_readComparison_36 : decode cX3_readComparison 36 = .ok (.bipush 61, 2) := by decide +kernel
theorem dX3_readComparison_38 : decode cX3_readComparison 38 = .ok (.if_icmp .eq 27, 3) := by decide +kernel
theorem dX3_readComparison_41 : decode cX3_readComparison 41 = .ok (.iload_n 1, 1) := by decide +kernel
theorem dX3_readComparison_42 : decode cX3_readComparison 42 = .ok (.sipush 260, 3) := by decide +kernel
theorem dX3_readComparison_45 : decode cX3_readComparison 45 = .ok (.if_icmp .eq 20, 3) := by decide +kernel
theorem dX3_readComparison_48 : decode cX3_readComparison 48 = .ok (.iload_n 1, 1) := by decide +kernel
theorem dX3_readComparison_49 : decode cX3_readComparison 49 = .ok (.bipush 62, 2) := by decide +kernel
theorem dX3_readComparison_51 : decode cX3_readComparison 51 = .ok (.if_icmp .eq 14, 3) := by decide +kernel
theorem dX3_readComparison_54 : decode cX3_readComparison 54 = .ok (.aload_n 0, 1) := by decide +kernel
theorem dX3_readComparison_55 : decode cX3_readComparison 55 = .ok (.getfield 22, 3) := by decide +kernel
theorem dX3_readComparison_58 : decode cX3_readComparison 58 = .ok (.iconst 0, 1) := by decide +kernel
theorem dX3_readComparison_59 : decode cX3_readComparison 59 = .ok (.invokevirtual 70, 3) := by decide +kernel
theorem dX3_readComparison_62 : decode cX3_readComparison 62 = .ok (.goto 20, 3) := by decide +kernel
theorem dX3_readComparison_65 : decode cX3_readComparison 65 = .ok (.aload_n 0, 1) := by decide +kernel
theorem dX3_readComparison_66 : decode cX3_readComparison 66 = .ok (.getfield 19, 3) := by decide +kernel
theorem dX3_readComparison_69 : decode cX3_readComparison 69 = .ok (.bipush 60, 2) := by decide +kernel
theorem dX3_readComparison_71 : decode cX3_readComparison 71 = .ok (.if_icmp .le 11, 3) := by decide +kernel
theorem dX3_readComparison_74 : decode cX3_readComparison 74 = .ok (.aload_n 0, 1) := by decide +kernel
theorem dX3_readComparison_75 : decode cX3_readComparison 75 = .ok (.getfield 22, 3) := by decide +kernel
theorem dX3_readComparison_78 : decode cX3_readComparison 78 = .ok (.iconst 3, 1) := by decide +kernel
theorem dX3_readComparison_79 : decode cX3_readComparison 79 = .ok (.invokevirtual 70, 3) := by decide +kernel
theorem dX3_readComparison_82 : decode cX3_readComparison 82 = .ok (.aload_n 0, 1) := by decide +kernel
theorem dX3_readComparison_83 : decode cX3_readComparison 83 = .ok (.getfield 22, 3) := by decide +kernel
theorem dX3_readComparison_86 : decode cX3_readComparison 86 = .ok (.getfield 34, 3) := by decide +kernel
theorem dX3_readComparison_89 : decode cX3_readComparison 89 = .ok (.ifCond .ne 20, 3) := by decide +kernel
theorem dX3_readComparison_92 : decode cX3_readComparison 92 = .ok (.aload_n 0, 1) := by decide +kernel
theorem dX3_readComparison_93 : decode cX3_readComparison 93 = .ok (.getfield 22, 3) := by decide +kernel
theorem dX3_readComparison_96 : decode cX3_readComparison 96 = .ok (.invokevirtual 47, 3) := by decide +kernel
theorem dX3_readComparison_99 : decode cX3_readComparison 99 = .ok (.aload_n 0, 1) := by decide +kernel
theorem dX3_readComparison_100 : decode cX3_readComparison 100 = .ok (.invokevirtual 41, 3) := by decide +kernel
theorem dX3_readComparison_103 : decode cX3_readComparison 103 = .ok (.aload_n 0, 1) := by decide +kernel
theorem dX3_readComparison_104 : decode cX3_readComparison 104 = .ok (.iload_n 1, 1) := by decide +kernel
theorem dX3_readComparison_105 : decode cX3_readComparison 105 = .ok (.ineg, 1) := by decide +kernel
theorem dX3_readComparison_106 : decode cX3_readComparison 106 = .ok (.invokevirtual 53, 3) := by decide +kernel
theorem dX3_readComparison_109 : decode cX3_readComparison 109 = .ok (.return_, 1) := by decide +kernel
def f_X3_readComparison (G : GG) (v0 : Nat) (h : AH) : Option (AH) :=
ck (m_t h v0 = .inl 3) <|
ob (f_X3_readSum G v0 h) fun h2 =>
ck (m_t h2 v0 = .inl 3) <|
ob (m_r h2 v0 0) fun b5 =>
ck (m_t h2 b5 = .inl 8) <|
nn (m_i h2 b5 7) fun x7 =>
nn (m_si h2 v0 3 ((m_i h2 v0 3) + (1 : Int32))) fun h8 =>
nn (fun (h_82 : AH) => (ck (m_t h_82 v0 = .inl 3) <|
ob (m_r h_82 v0 0) fun b10 =>
ck (m_t h_82 b10 = .inl 8) <|
if (m_i h_82 b10 9) = 0 then (ob (m_r h_82 v0 0) fun b13 =>
ck (m_t h_82 b13 = .inl 8) <|
ob (f_X8_advance G b13 h_82) fun h15 =>
ck (m_t h15 v0 = .inl 3) <|
ob (f_X3_readSum G v0 h15) fun h18 =>
ck (m_t h18 v0 = .inl 3) <|
ob (f_X3_write G v0 (-x7) h18) fun h21 =>
some h21) else
some h_82)) fun j_82 =>
nn (fun (uu_65 : Unit) => (if (m_i h8 v0 3) ≤ (60 : Int32) then (j_82 h8) else
ob (m_r h8 v0 0) fun b24 =>
ck (m_t h8 b24 = .inl 8) <|
ob (f_X8_fail G b24 (3 : Int32) h8) fun h26 =>
j_82 h26)) fun j_65 =>
if x7 = (60 : Int32) then (j_65 ()) else
if x7 = (259 : Int32) then (j_65 ()) else
if x7 = (61 : Int32) then (j_65 ()) else
if x7 = (260 : Int32) then (j_65 ()) else
if x7 = (62 : Int32) then (j_65 ()) else
ob (m_r h8 v0 0) fun b33 =>
ck (m_t h8 b33 = .inl 8) <|
ob (f_X8_fail G b33 (0 : Int32) h8) fun h35 =>
j_82 h35
set_option maxHeartbeats 4000000 in
set_option maxRecDepth 100000 in
theorem ct_X3_readComparison {G : GG} {l : Launch} {v0 : Nat} {h : AH} {y : AH} (hf : f_X3_readComparison G v0 h = some y) : Ct G l yX3_readComparison cX3_readComparison 2 none 3 67 0 0 [.ref v0] h (none, y) := by
  refine ct_of (by decide) (Nat.le_of_ble_eq_true rfl) ?_
  intro p e s m args below meth c C hm hr hin
  have C : Cx G cX3_readComparison RX3 p s m args meth c := C
  refine e_lv (lv2 := [(0, .ref v0)]) [0] rfl ?_
  unfold f_X3_readComparison at hf
  refine e_aload_n (pc := 0) C dX3_readComparison_0 0 rfl rfl ?_
  obtain ⟨t1, hf⟩ := ck_e hf
  obtain ⟨h2, y3, hf⟩ := ob_e hf
  refine e_callVv (pc := 1) (st := []) 3 C (ct_X3_readSum y3) dX3_readComparison_1 (by decide) t1 g819 g821 g17 g149 g822 hd_X3_readSum rfl ⟨Nat.le_of_ble_eq_true rfl, Nat.le_of_ble_eq_true rfl⟩ ⟨Nat.le_of_ble_eq_true rfl, Nat.le_of_ble_eq_true rfl⟩ rfl (Nat.le_of_ble_eq_true rfl) ?_
  refine e_aload_n (pc := 4) C dX3_readComparison_4 0 rfl rfl ?_
  obtain ⟨t4, hf⟩ := ck_e hf
  refine e_getr (pc := 5) 3 0 C dX3_readComparison_5 (by decide) (by decide) g240 rfl t4 ?_
  obtain ⟨b5, eb5, hf⟩ := ob_e hf
  refine e_rf eb5 ?_
  obtain ⟨t6, hf⟩ := ck_e hf
  refine e_getiN (pc := 8) 8 7 C dX3_readComparison_8 (by decide) (by decide) g191 rfl t6 ?_
  obtain ⟨x7, ex7, hf⟩ := nn_e hf
  refine e_topi ex7 ?_
  refine e_istore_n (pc := 11) (lv2 := [(1, .int x7), (0, .ref v0)]) C hm dX3_readComparison_11 rfl (by decide) rfl ?_
  refine e_aload_n (pc := 12) C dX3_readComparison_12 1 rfl rfl ?_
  refine e_dup (pc := 13) C dX3_readComparison_13 rfl ?_
  refine e_geti (pc := 14) 3 3 C dX3_readComparison_14 (by decide) (by decide) g243 rfl t4 ?_
  refine e_iconst (v := (1 : Int32)) (pc := 17) C dX3_readComparison_17 (by decide) ?_
  refine e_iadd (pc := 18) C dX3_readComparison_18 ?_
  refine e_puti (pc := 19) 3 3 C dX3_readComparison_19 (by decide) (by decide) g243 rfl rfl rfl rfl t4 ?_
  obtain ⟨h8, eh8, hf⟩ := nn_e hf
  refine e_hp eh8 ?_
  have uh8 : m_t h8 = m_t h2 := by rw [eh8]; exact rfl
  refine e_iload_n (pc := 22) C dX3_readComparison_22 0 rfl rfl ?_
  refine e_bipush (v := (60 : Int32)) (pc := 23) C dX3_readComparison_23 (by decide) ?_
  obtain ⟨j_82, ej_82, hf⟩ := nn_e hf
  have W_82 : ∀ (h_82 : AH), j_82 h_82 = some y → EE G p l e ({ frames := 3, cells := 0, slots := 0, locals := 67 } : Room) s m args below meth c (none, y) 0 0 82 [(0, .ref v0), (1, .int x7)] [] h_82 0 0 := by
    intro h_82 hf
    rw [ej_82] at hf
    refine e_aload_n (pc := 82) C dX3_readComparison_82 0 rfl rfl ?_
    obtain ⟨t9, hf⟩ := ck_e hf
    refine e_getr (pc := 83) 3 0 C dX3_readComparison_83 (by decide) (by decide) g240 rfl t9 ?_
    obtain ⟨b10, eb10, hf⟩ := ob_e hf
    refine e_rf eb10 ?_
    obtain ⟨t11, hf⟩ := ck_e hf
    refine e_getiN (pc := 86) 8 9 C dX3_readComparison_86 (by decide) (by decide) g195 rfl t11 ?_
    rcases it_e hf with ⟨c12, hf⟩ | ⟨c12, hf⟩
    · refine e_if_ne (pc := 89) (tgt := 109) C dX3_readComparison_89 (by decide) (fun q => absurd c12 q) (fun _ => ?_)
      refine e_aload_n (pc := 92) C dX3_readComparison_92 0 rfl rfl ?_
      refine e_getr (pc := 93) 3 0 C dX3_readComparison_93 (by decide) (by decide) g240 rfl t9 ?_
      obtain ⟨b13, eb13, hf⟩ := ob_e hf
      refine e_rf eb13 ?_
      obtain ⟨t14, hf⟩ := ck_e hf
      obtain ⟨h15, y16, hf⟩ := ob_e hf
      refine e_callVv (pc := 96) (st := []) 8 C (ct_X8_advance y16) dX3_readComparison_96 (by decide) t14 g818 g715 g716 g147 g717 hd_X8_advance rfl ⟨Nat.le_of_ble_eq_true rfl, Nat.le_of_ble_eq_true rfl⟩ ⟨Nat.le_of_ble_eq_true rfl, Nat.le_of_ble_eq_true rfl⟩ rfl (Nat.le_of_ble_eq_true rfl) ?_
      refine e_aload_n (pc := 99) C dX3_readComparison_99 0 rfl rfl ?_
      obtain ⟨t17, hf⟩ := ck_e hf
      obtain ⟨h18, y19, hf⟩ := ob_e hf
      refine e_callVv (pc := 100) (st := []) 3 C (ct_X3_readSum y19) dX3_readComparison_100 (by decide) t17 g819 g821 g17 g149 g822 hd_X3_readSum rfl ⟨Nat.le_of_ble_eq_true rfl, Nat.le_of_ble_eq_true rfl⟩ ⟨Nat.le_of_ble_eq_true rfl, Nat.le_of_ble_eq_true rfl⟩ rfl (Nat.le_of_ble_eq_true rfl) ?_
      refine e_aload_n (pc := 103) C dX3_readComparison_103 0 rfl rfl ?_
      refine e_iload_n (pc := 104) C dX3_readComparison_104 1 rfl rfl ?_
      refine e_ineg (pc := 105) C dX3_readComparison_105 ?_
      obtain ⟨t20, hf⟩ := ck_e hf
      obtain ⟨h21, y22, hf⟩ := ob_e hf
      refine e_callVv (pc := 106) (st := []) 3 C (ct_X3_write y22) dX3_readComparison_106 (by decide) t20 g827 g829 g19 g149 g830 hd_X3_write rfl ⟨Nat.le_of_ble_eq_true rfl, Nat.le_of_ble_eq_true rfl⟩ ⟨Nat.le_of_ble_eq_true rfl, Nat.le_of_ble_eq_true rfl⟩ rfl (Nat.le_of_ble_eq_true rfl) ?_
      obtain rfl := so_e hf
      exact e_vret (pc := 109) C hr dX3_readComparison_109 (Nat.le_of_ble_eq_true rfl) (Nat.le_of_ble_eq_true rfl)
    · refine e_if_ne (pc := 89) (tgt := 109) C dX3_readComparison_89 (by decide) (fun _ => ?_) (fun q => absurd q c12)
      obtain rfl := so_e hf
      exact e_vret (pc := 109) C hr dX3_readComparison_109 (Nat.le_of_ble_eq_true rfl) (Nat.le_of_ble_eq_true rfl)
  obtain ⟨j_65, ej_65, hf⟩ := nn_e hf
  have W_65 : ∀ (uu_65 : Unit), j_65 uu_65 = some y → EE G p l e ({ frames := 3, cells := 0, slots := 0, locals := 67 } : Room) s m args below meth c (none, y) 0 0 65 [(0, .ref v0), (1, .int x7)] [] h8 0 0 := by
    intro uu_65 hf
    rw [ej_65] at hf
    refine e_aload_n (pc := 65) C dX3_readComparison_65 0 rfl rfl ?_
    refine e_geti (pc := 66) 3 3 C dX3_readComparison_66 (by decide) (by decide) g243 rfl (e_mt uh8 t4) ?_
    refine e_bipush (v := (60 : Int32)) (pc := 69) C dX3_readComparison_69 (by decide) ?_
    rcases it_e hf with ⟨c23, hf⟩ | ⟨c23, hf⟩
    · refine e_icmp_le (pc := 71) (tgt := 82) C dX3_readComparison_71 (by decide) (fun _ => ?_) (fun q => absurd c23 q)
      exact W_82 h8 hf
    · refine e_icmp_le (pc := 71) (tgt := 82) C dX3_readComparison_71 (by decide) (fun q => absurd q c23) (fun _ => ?_)
      refine e_aload_n (pc := 74) C dX3_readComparison_74 0 rfl rfl ?_
      refine e_getr (pc := 75) 3 0 C dX3_readComparison_75 (by decide) (by decide) g240 rfl (e_mt uh8 t4) ?_
      obtain ⟨b24, eb24, hf⟩ := ob_e hf
      refine e_rf eb24 ?_
      refine e_iconst (v := (3 : Int32)) (pc := 78) C dX3_readComparison_78 (by decide) ?_
      obtain ⟨t25, hf⟩ := ck_e hf
      obtain ⟨h26, y27, hf⟩ := ob_e hf
      refine e_callVv (pc := 79) (st := []) 8 C (ct_X8_fail y27) dX3_readComparison_79 (by decide) t25 g817 g723 g724 g147 g725 hd_X8_fail rfl ⟨Nat.le_of_ble_eq_true rfl, Nat.le_of_ble_eq_true rfl⟩ ⟨Nat.le_of_ble_eq_true rfl, Nat.le_of_ble_eq_true rfl⟩ rfl (Nat.le_of_ble_eq_true rfl) ?_
      exact W_82 h26 hf
  rcases it_e hf with ⟨c28, hf⟩ | ⟨c28, hf⟩
  · refine e_icmp_eq (pc := 25) (tgt := 65) C dX3_readComparison_25 (by decide) (fun _ => ?_) (fun q => absurd c28 q)
    refine e_lv (lv2 := [(0, .ref v0), (1, .int x7)]) [1, 0] rfl ?_
    exact W_65 () hf
  · refine e_icmp_eq (pc := 25) (tgt := 65) C dX3_readComparison_25 (by decide) (fun q => absurd q c28) (fun _ => ?_)
    refine e_iload_n (pc := 28) C dX3_readComparison_28 0 rfl rfl ?_
    refine e_sipush (v := (259 : Int32)) (pc := 29) C dX3_readComparison_29 (by decide) ?_
    rcases it_e hf with ⟨c29, hf⟩ | ⟨c29, hf⟩
    · refine e_icmp_eq (pc := 32) (tgt := 65) C dX3_readComparison_32 (by decide) (fun _ => ?_) (fun q => absurd c29 q)
      refine e_lv (lv2 := [(0, .ref v0), (1, .int x7)]) [1, 0] rfl ?_
      exact W_65 () hf
    · refine e_icmp_eq (pc := 32) (tgt := 65) C dX3_readComparison_32 (by decide) (fun q => absurd q c29) (fun _ => ?_)
      refine e_iload_n (pc := 35) C dX3_readComparison_35 0 rfl rfl ?_
      refine e_bipush (v := (61 : Int32)) (pc := 36) C dX3_readComparison_36 (by decide) ?_
      rcases it_e hf with ⟨c30, hf⟩ | ⟨c30, hf⟩
      · refine e_icmp_eq (pc := 38) (tgt := 65) C dX3_readComparison_38 (by decide) (fun _ => ?_) (fun q => absurd c30 q)
        refine e_lv (lv2 := [(0, .ref v0), (1, .int x7)]) [1, 0] rfl ?_
        exact W_65 () hf
      · refine e_icmp_eq (pc := 38) (tgt := 65) C dX3_readComparison_38 (by decide) (fun q => absurd q c30) (fun _ => ?_)
        refine e_iload_n (pc := 41) C dX3_readComparison_41 0 rfl rfl ?_
        refine e_sipush (v := (260 : Int32)) (pc := 42) C dX3_readComparison_42 (by decide) ?_
        rcases it_e hf with ⟨c31, hf⟩ | ⟨c31, hf⟩
        · refine e_icmp_eq (pc := 45) (tgt := 65) C dX3_readComparison_45 (by decide) (fun _ => ?_) (fun q => absurd c31 q)
          refine e_lv (lv2 := [(0, .ref v0), (1, .int x7)]) [1, 0] rfl ?_
          exact W_65 () hf
        · refine e_icmp_eq (pc := 45) (tgt := 65) C dX3_readComparison_45 (by decide) (fun q => absurd q c31) (fun _ => ?_)
          refine e_iload_n (pc := 48) C dX3_readComparison_48 0 rfl rfl ?_
          refine e_bipush (v := (62 : Int32)) (pc := 49) C dX3_readComparison_49 (by decide) ?_
          rcases it_e hf with ⟨c32, hf⟩ | ⟨c32, hf⟩
          · refine e_icmp_eq (pc := 51) (tgt := 65) C dX3_readComparison_51 (by decide) (fun _ => ?_) (fun q => absurd c32 q)
            refine e_lv (lv2 := [(0, .ref v0), (1, .int x7)]) [1, 0] rfl ?_
            exact W_65 () hf
          · refine e_icmp_eq (pc := 51) (tgt := 65) C dX3_readComparison_51 (by decide) (fun q => absurd q c32) (fun _ => ?_)
            refine e_aload_n (pc := 54) C dX3_readComparison_54 1 rfl rfl ?_
            refine e_getr (pc := 55) 3 0 C dX3_readComparison_55 (by decide) (by decide) g240 rfl (e_mt uh8 t4) ?_
            obtain ⟨b33, eb33, hf⟩ := ob_e hf
            refine e_rf eb33 ?_
            refine e_iconst (v := (0 : Int32)) (pc := 58) C dX3_readComparison_58 (by decide) ?_
            obtain ⟨t34, hf⟩ := ck_e hf
            obtain ⟨h35, y36, hf⟩ := ob_e hf
            refine e_callVv (pc := 59) (st := []) 8 C (ct_X8_fail y36) dX3_readComparison_59 (by decide) t34 g817 g723 g724 g147 g725 hd_X8_fail rfl ⟨Nat.le_of_ble_eq_true rfl, Nat.le_of_ble_eq_true rfl⟩ ⟨Nat.le_of_ble_eq_true rfl, Nat.le_of_ble_eq_true rfl⟩ rfl (Nat.le_of_ble_eq_true rfl) ?_
            refine e_goto (pc := 62) (tgt := 82) C dX3_readComparison_62 (by decide) ?_
            refine e_lv (lv2 := [(0, .ref v0), (1, .int x7)]) [1, 0] rfl ?_
            exact W_82 h35 hf
