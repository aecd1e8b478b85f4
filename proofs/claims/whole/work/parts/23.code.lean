/-! Functions and walks, by a program of ours: X12_log X12_laysCourses X12_ruled X12_mostAlike X12_look X12_seed X12_draws X12_riderOf X12_crossAll X12_journeys X12_ridersSet X12_count X12_image X12_back -/
theorem dX12_log_0 : decode cX12_log 0 = .ok (.iload_n 1, 1) := by decide +kernel
theorem dX12_log_1 : decode cX12_log 1 = .ok (.iconst (-1), 1) := by decide +kernel
theorem dX12_log_2 : decode cX12_log 2 = .ok (.if_icmp .ne 13, 3) := by decide +kernel
theorem dX12_log_5 : decode cX12_log 5 = .ok (.aload_n 0, 1) := by decide +kernel
theorem dX12_log_6 : decode cX12_log 6 = .ok (.getfield 9, 3) := by decide +kernel
theorem dX12_log_9 : decode cX12_log 9 = .ok (.bipush 14, 2) := by decide +kernel
theorem dX12_log_11 : decode cX12_log 11 = .ok (.iconst 0, 1) := by decide +kernel
theorem dX12_log_12 : decode cX12_log 12 = .ok (.iastore, 1) := by decide +kernel
theorem dX12_log_13 : decode cX12_log 13 = .ok (.iconst 0, 1) := by decide +kernel
theorem dX12_log_14 : decode cX12_log 14 = .ok (.ireturn, 1) := by decide +kernel
theorem dX12_log_15 : decode cX12_log 15 = .ok (.aload_n 0, 1) := by decide +kernel
theorem dX12_log_16 : decode cX12_log 16 = .ok (.getfield 9, 3) := by decide +kernel
theorem dX12_log_19 : decode cX12_log 19 = .ok (.bipush 14, 2) := by decide +kernel
theorem dX12_log_21 : decode cX12_log 21 = .ok (.iaload, 1) := by decide +kernel
theorem dX12_log_22 : decode cX12_log 22 = .ok (.istore_n 3, 1) := by decide +kernel
theorem dX12_log_23 : decode cX12_log 23 = .ok (.aload_n 0, 1) := by decide +kernel
theorem dX12_log_24 : decode cX12_log 24 = .ok (.invokevirtual 468, 3) := by decide +kernel
theorem dX12_log_27 : decode cX12_log 27 = .ok (.ifCond .eq 33, 3) := by decide +kernel
theorem dX12_log_30 : decode cX12_log 30 = .ok (.iload_n 1, 1) := by decide +kernel
theorem dX12_log_31 : decode cX12_log 31 = .ok (.i2l, 1) := by decide +kernel
theorem dX12_log_32 : decode cX12_log 32 = .ok (.lconst 0, 1) := by decide +kernel
theorem dX12_log_33 : decode cX12_log 33 = .ok (.ldc2_w 615, 3) := by decide +kernel
theorem dX12_log_36 : decode cX12_log 36 = .ok (.invokestatic 206, 3) := by decide +kernel
theorem dX12_log_39 : decode cX12_log 39 = .ok (.ifCond .eq 21, 3) := by decide +kernel
theorem dX12_log_42 : decode cX12_log 42 = .ok (.iload_n 2, 1) := by decide +kernel
theorem dX12_log_43 : decode cX12_log 43 = .ok (.i2l, 1) := by decide +kernel
theorem dX12_log_44 : decode cX12_log 44 = .ok (.lconst 0, 1) := by decide +kernel
theorem dX12_log_45 : decode cX12_log 45 = .ok (.ldc2_w 615, 3) := by decide +kernel
theorem dX12_log_48 : decode cX12_log 48 = .ok (.invokestatic 206, 3) := by decide +kernel
theorem dX12_log_51 : decode cX12_log 51 = .ok (.ifCond .eq 9, 3) := by decide +kernel
theorem dX12_log_54 : decode cX12_log 54 = .ok (.iload_n 3, 1) := by decide +kernel
theorem dX12_log_55 : decode cX12_log 55 = .ok (.bipush 10, 2) := by decide +kernel
theorem dX12_log_57 : decode cX12_log 57 = .ok (.if_icmp .ne 6, 3) := by decide +kernel
theorem dX12_log_60 : decode cX12_log 60 = .ok (.bipush (-2), 2) := by decide +kernel
theorem dX12_log_62 : decode cX12_log 62 = .ok (.ireturn, 1) := by decide +kernel
theorem dX12_log_63 : decode cX12_log 63 = .ok (.aload_n 0, 1) := by decide +kernel
theorem dX12_log_64 : decode cX12_log 64 = .ok (.getfield 61, 3) := by decide +kernel
theorem dX12_log_67 : decode cX12_log 67 = .ok (.iload_n 3, 1) := by decide +kernel
theorem dX12_log_68 : decode cX12_log 68 = .ok (.iload_n 1, 1) := by decide +kernel
theorem dX12_log_69 : decode cX12_log 69 = .ok (.iastore, 1) := by decide +kernel
theorem dX12_log_70 : decode cX12_log 70 = .ok (.aload_n 0, 1) := by decide +kernel
theorem dX12_log_71 : decode cX12_log 71 = .ok (.getfield 64, 3) := by decide +kernel
theorem dX12_log_74 : decode cX12_log 74 = .ok (.iload_n 3, 1) := by decide +kernel
theorem dX12_log_75 : decode cX12_log 75 = .ok (.iload_n 2, 1) := by decide +kernel
theorem dX12_log_76 : decode cX12_log 76 = .ok (.iastore, 1) := by decide +kernel
theorem dX12_log_77 : decode cX12_log 77 = .ok (.aload_n 0, 1) := by decide +kernel
theorem dX12_log_78 : decode cX12_log 78 = .ok (.getfield 9, 3) := by decide +kernel
theorem dX12_log_81 : decode cX12_log 81 = .ok (.bipush 14, 2) := by decide +kernel
theorem dX12_log_83 : decode cX12_log 83 = .ok (.dup2, 1) := by decide +kernel
theorem dX12_log_84 : decode cX12_log 84 = .ok (.iaload, 1) := by decide +kernel
theorem dX12_log_85 : decode cX12_log 85 = .ok (.iconst 1, 1) := by decide +kernel
theorem dX12_log_86 : decode cX12_log 86 = .ok (.iadd, 1) := by decide +kernel
theorem dX12_log_87 : decode cX12_log 87 = .ok (.iastore, 1) := by decide +kernel
theorem dX12_log_88 : decode cX12_log 88 = .ok (.iload_n 3, 1) := by decide +kernel
theorem dX12_log_89 : decode cX12_log 89 = .ok (.iconst 1, 1) := by decide +kernel
theorem dX12_log_90 : decode cX12_log 90 = .ok (.iadd, 1) := by decide +kernel
theorem dX12_log_91 : decode cX12_log 91 = .ok (.ireturn, 1) := by decide +kernel
def f_X12_log (G : GG) (v0 : Nat) (v1 : Int32) (v2 : Int32) (h : AH) : Option (Int32 × AH) :=
if v1 = (-1 : Int32) then (ck (m_t h v0 = .inl 12) <|
ob (m_r h v0 1) fun b3 =>
ck (ixb h b3 .int (14 : Int32) = true) <|
nn (m_si h b3 (14 : Int32).toNatClampNeg (0 : Int32)) fun h6 =>
some ((0 : Int32), h6)) else
ck (m_t h v0 = .inl 12) <|
ob (m_r h v0 1) fun b8 =>
ck (ixb h b8 .int (14 : Int32) = true) <|
nn (m_i h b8 (14 : Int32).toNatClampNeg) fun x11 =>
cb (f_X12_isTrain G v0 h) fun r14 h12 =>
if r14 = 0 then (some ((-2 : Int32), h12)) else
cb (f_X12_in G v1.toInt64 (0 : Int64) (60 : Int64) h12) fun r18 h16 =>
if r18 = 0 then (some ((-2 : Int32), h16)) else
cb (f_X12_in G v2.toInt64 (0 : Int64) (60 : Int64) h16) fun r22 h20 =>
if r22 = 0 then (some ((-2 : Int32), h20)) else
if x11 = (10 : Int32) then (some ((-2 : Int32), h20)) else
ck (m_t h20 v0 = .inl 12) <|
ob (m_r h20 v0 18) fun b26 =>
ck (ixb h20 b26 .int x11 = true) <|
nn (m_si h20 b26 x11.toNatClampNeg v1) fun h29 =>
ob (m_r h29 v0 19) fun b30 =>
ck (ixb h29 b30 .int x11 = true) <|
nn (m_si h29 b30 x11.toNatClampNeg v2) fun h33 =>
ob (m_r h33 v0 1) fun b34 =>
ck (ixb h33 b34 .int (14 : Int32) = true) <|
ck (ixb h33 b34 .int (14 : Int32) = true) <|
nn (m_si h33 b34 (14 : Int32).toNatClampNeg ((m_i h33 b34 (14 : Int32).toNatClampNeg) + (1 : Int32))) fun h39 =>
some (x11 + (1 : Int32), h39)
set_option maxHeartbeats 4000000 in
set_option maxRecDepth 100000 in
theorem ct_X12_log {G : GG} {l : Launch} {v0 : Nat} {v1 : Int32} {v2 : Int32} {h : AH} {y : Int32 × AH} (hf : f_X12_log G v0 v1 v2 h = some y) : Ct G l yX12_log cX12_log 4 (some .int) 1 25 0 0 [.ref v0, .int v1, .int v2] h (some (.int y.1), y.2) := by
  refine ct_of (by decide) (Nat.le_of_ble_eq_true rfl) ?_
  intro p e s m args below meth c C hm hr hin
  have C : Cx G cX12_log RX12 p s m args meth c := C
  refine e_lv (lv2 := [(0, .ref v0), (1, .int v1), (2, .int v2)]) [0, 1, 2] rfl ?_
  unfold f_X12_log at hf
  refine e_iload_n (pc := 0) C dX12_log_0 1 rfl rfl ?_
  refine e_iconst (v := (-1 : Int32)) (pc := 1) C dX12_log_1 (by decide) ?_
  rcases it_e hf with ⟨c1, hf⟩ | ⟨c1, hf⟩
  · refine e_icmp_ne (pc := 2) (tgt := 15) C dX12_log_2 (by decide) (fun q => absurd c1 q) (fun _ => ?_)
    refine e_aload_n (pc := 5) C dX12_log_5 0 rfl rfl ?_
    obtain ⟨t2, hf⟩ := ck_e hf
    refine e_getr (pc := 6) 12 1 C dX12_log_6 (by decide) (by decide) g1402 rfl t2 ?_
    obtain ⟨b3, eb3, hf⟩ := ob_e hf
    refine e_rf eb3 ?_
    refine e_bipush (v := (14 : Int32)) (pc := 9) C dX12_log_9 (by decide) ?_
    refine e_iconst (v := (0 : Int32)) (pc := 11) C dX12_log_11 (by decide) ?_
    obtain ⟨q4, hf⟩ := ck_e hf
    obtain ⟨n5, tn5, in5⟩ := ix_e q4
    refine e_iast (pc := 12) C dX12_log_12 tn5 in5 ?_
    obtain ⟨h6, eh6, hf⟩ := nn_e hf
    refine e_hp eh6 ?_
    have uh6 : m_t h6 = m_t h := by rw [eh6]; exact rfl
    refine e_iconst (v := (0 : Int32)) (pc := 13) C dX12_log_13 (by decide) ?_
    obtain rfl := so_e hf
    exact e_iret (pc := 14) C hr dX12_log_14 (Nat.le_of_ble_eq_true rfl) (Nat.le_of_ble_eq_true rfl)
  · refine e_icmp_ne (pc := 2) (tgt := 15) C dX12_log_2 (by decide) (fun _ => ?_) (fun q => absurd q c1)
    refine e_aload_n (pc := 15) C dX12_log_15 0 rfl rfl ?_
    obtain ⟨t7, hf⟩ := ck_e hf
    refine e_getr (pc := 16) 12 1 C dX12_log_16 (by decide) (by decide) g1402 rfl t7 ?_
    obtain ⟨b8, eb8, hf⟩ := ob_e hf
    refine e_rf eb8 ?_
    refine e_bipush (v := (14 : Int32)) (pc := 19) C dX12_log_19 (by decide) ?_
    obtain ⟨q9, hf⟩ := ck_e hf
    obtain ⟨n10, tn10, in10⟩ := ix_e q9
    refine e_iald (pc := 21) C dX12_log_21 tn10 in10 ?_
    obtain ⟨x11, ex11, hf⟩ := nn_e hf
    refine e_topi ex11 ?_
    refine e_istore_n (pc := 22) (lv2 := [(3, .int x11), (0, .ref v0), (1, .int v1), (2, .int v2)]) C hm dX12_log_22 rfl (by decide) rfl ?_
    refine e_aload_n (pc := 23) C dX12_log_23 1 rfl rfl ?_
    obtain ⟨r14, h12, y13, hf⟩ := cb_e hf
    refine e_callVi (pc := 24) (st := []) 12 C (ct_X12_isTrain y13) dX12_log_24 (by decide) t7 g1907 g1909 g96 g157 g1910 hd_X12_isTrain rfl ⟨Nat.le_of_ble_eq_true rfl, Nat.le_of_ble_eq_true rfl⟩ ⟨Nat.le_of_ble_eq_true rfl, Nat.le_of_ble_eq_true rfl⟩ rfl (Nat.le_of_ble_eq_true rfl) ?_
    rcases it_e hf with ⟨c15, hf⟩ | ⟨c15, hf⟩
    · refine e_if_eq (pc := 27) (tgt := 60) C dX12_log_27 (by decide) (fun _ => ?_) (fun q => absurd c15 q)
      refine e_bipush (v := (-2 : Int32)) (pc := 60) C dX12_log_60 (by decide) ?_
      obtain rfl := so_e hf
      exact e_iret (pc := 62) C hr dX12_log_62 (Nat.le_of_ble_eq_true rfl) (Nat.le_of_ble_eq_true rfl)
    · refine e_if_eq (pc := 27) (tgt := 60) C dX12_log_27 (by decide) (fun q => absurd q c15) (fun _ => ?_)
      refine e_iload_n (pc := 30) C dX12_log_30 2 rfl rfl ?_
      refine e_i2l (pc := 31) C dX12_log_31 ?_
      refine e_lconst (v := (0 : Int64)) (pc := 32) C dX12_log_32 (by decide) ?_
      refine e_ldc2 (pc := 33) C dX12_log_33 g2113 ?_
      obtain ⟨r18, h16, y17, hf⟩ := cb_e hf
      refine e_callSi (pc := 36) (st := []) C (ct_X12_in y17) dX12_log_36 g1737 g1738 g157 g1739 hd_X12_in rfl ⟨Nat.le_of_ble_eq_true rfl, Nat.le_of_ble_eq_true rfl⟩ ⟨Nat.le_of_ble_eq_true rfl, Nat.le_of_ble_eq_true rfl⟩ rfl (Nat.le_of_ble_eq_true rfl) ?_
      rcases it_e hf with ⟨c19, hf⟩ | ⟨c19, hf⟩
      · refine e_if_eq (pc := 39) (tgt := 60) C dX12_log_39 (by decide) (fun _ => ?_) (fun q => absurd c19 q)
        refine e_bipush (v := (-2 : Int32)) (pc := 60) C dX12_log_60 (by decide) ?_
        obtain rfl := so_e hf
        exact e_iret (pc := 62) C hr dX12_log_62 (Nat.le_of_ble_eq_true rfl) (Nat.le_of_ble_eq_true rfl)
      · refine e_if_eq (pc := 39) (tgt := 60) C dX12_log_39 (by decide) (fun q => absurd q c19) (fun _ => ?_)
        refine e_iload_n (pc := 42) C dX12_log_42 3 rfl rfl ?_
        refine e_i2l (pc := 43) C dX12_log_43 ?_
        refine e_lconst (v := (0 : Int64)) (pc := 44) C dX12_log_44 (by decide) ?_
        refine e_ldc2 (pc := 45) C dX12_log_45 g2113 ?_
        obtain ⟨r22, h20, y21, hf⟩ := cb_e hf
        refine e_callSi (pc := 48) (st := []) C (ct_X12_in y21) dX12_log_48 g1737 g1738 g157 g1739 hd_X12_in rfl ⟨Nat.le_of_ble_eq_true rfl, Nat.le_of_ble_eq_true rfl⟩ ⟨Nat.le_of_ble_eq_true rfl, Nat.le_of_ble_eq_true rfl⟩ rfl (Nat.le_of_ble_eq_true rfl) ?_
        rcases it_e hf with ⟨c23, hf⟩ | ⟨c23, hf⟩
        · refine e_if_eq (pc := 51) (tgt := 60) C dX12_log_51 (by decide) (fun _ => ?_) (fun q => absurd c23 q)
          refine e_bipush (v := (-2 : Int32)) (pc := 60) C dX12_log_60 (by decide) ?_
          obtain rfl := so_e hf
          exact e_iret (pc := 62) C hr dX12_log_62 (Nat.le_of_ble_eq_true rfl) (Nat.le_of_ble_eq_true rfl)
        · refine e_if_eq (pc := 51) (tgt := 60) C dX12_log_51 (by decide) (fun q => absurd q c23) (fun _ => ?_)
          refine e_iload_n (pc := 54) C dX12_log_54 0 rfl rfl ?_
          refine e_bipush (v := (10 : Int32)) (pc := 55) C dX12_log_55 (by decide) ?_
          rcases it_e hf with ⟨c24, hf⟩ | ⟨c24, hf⟩
          · refine e_icmp_ne (pc := 57) (tgt := 63) C dX12_log_57 (by decide) (fun q => absurd c24 q) (fun _ => ?_)
            refine e_bipush (v := (-2 : Int32)) (pc := 60) C dX12_log_60 (by decide) ?_
            obtain rfl := so_e hf
            exact e_iret (pc := 62) C hr dX12_log_62 (Nat.le_of_ble_eq_true rfl) (Nat.le_of_ble_eq_true rfl)
          · refine e_icmp_ne (pc := 57) (tgt := 63) C dX12_log_57 (by decide) (fun _ => ?_) (fun q => absurd q c24)
            refine e_aload_n (pc := 63) C dX12_log_63 1 rfl rfl ?_
            obtain ⟨t25, hf⟩ := ck_e hf
            refine e_getr (pc := 64) 12 18 C dX12_log_64 (by decide) (by decide) g1419 rfl t25 ?_
            obtain ⟨b26, eb26, hf⟩ := ob_e hf
            refine e_rf eb26 ?_
            refine e_iload_n (pc := 67) C dX12_log_67 0 rfl rfl ?_
            refine e_iload_n (pc := 68) C dX12_log_68 2 rfl rfl ?_
            obtain ⟨q27, hf⟩ := ck_e hf
            obtain ⟨n28, tn28, in28⟩ := ix_e q27
            refine e_iast (pc := 69) C dX12_log_69 tn28 in28 ?_
            obtain ⟨h29, eh29, hf⟩ := nn_e hf
            refine e_hp eh29 ?_
            have uh29 : m_t h29 = m_t h20 := by rw [eh29]; exact rfl
            refine e_aload_n (pc := 70) C dX12_log_70 1 rfl rfl ?_
            refine e_getr (pc := 71) 12 19 C dX12_log_71 (by decide) (by decide) g1420 rfl (e_mt uh29 t25) ?_
            obtain ⟨b30, eb30, hf⟩ := ob_e hf
            refine e_rf eb30 ?_
            refine e_iload_n (pc := 74) C dX12_log_74 0 rfl rfl ?_
            refine e_iload_n (pc := 75) C dX12_log_75 3 rfl rfl ?_
            obtain ⟨q31, hf⟩ := ck_e hf
            obtain ⟨n32, tn32, in32⟩ := ix_e q31
            refine e_iast (pc := 76) C dX12_log_76 tn32 in32 ?_
            obtain ⟨h33, eh33, hf⟩ := nn_e hf
            refine e_hp eh33 ?_
            have uh33 : m_t h33 = m_t h20 := by rw [eh33]; exact uh29
            refine e_aload_n (pc := 77) C dX12_log_77 1 rfl rfl ?_
            refine e_getr (pc := 78) 12 1 C dX12_log_78 (by decide) (by decide) g1402 rfl (e_mt uh33 t25) ?_
            obtain ⟨b34, eb34, hf⟩ := ob_e hf
            refine e_rf eb34 ?_
            refine e_bipush (v := (14 : Int32)) (pc := 81) C dX12_log_81 (by decide) ?_
            refine e_dup2 (pc := 83) C dX12_log_83 rfl rfl ?_
            obtain ⟨q35, hf⟩ := ck_e hf
            obtain ⟨n36, tn36, in36⟩ := ix_e q35
            refine e_iald (pc := 84) C dX12_log_84 tn36 in36 ?_
            refine e_iconst (v := (1 : Int32)) (pc := 85) C dX12_log_85 (by decide) ?_
            refine e_iadd (pc := 86) C dX12_log_86 ?_
            obtain ⟨q37, hf⟩ := ck_e hf
            obtain ⟨n38, tn38, in38⟩ := ix_e q37
            refine e_iast (pc := 87) C dX12_log_87 tn38 in38 ?_
            obtain ⟨h39, eh39, hf⟩ := nn_e hf
            refine e_hp eh39 ?_
            have uh39 : m_t h39 = m_t h20 := by rw [eh39]; exact uh33
            refine e_iload_n (pc := 88) C dX12_log_88 0 rfl rfl ?_
            refine e_iconst (v := (1 : Int32)) (pc := 89) C dX12_log_89 (by decide) ?_
            refine e_iadd (pc := 90) C dX12_log_90 ?_
            obtain rfl := so_e hf
            exact e_iret (pc := 91) C hr dX12_log_91 (Nat.le_of_ble_eq_true rfl) (Nat.le_of_ble_eq_true rfl)
theorem dX12_laysCourses_0 : decode cX12_laysCourses 0 = .ok (.iconst 0, 1) := by decide +kernel
theorem dX12_laysCourses_1 : decode cX12_laysCourses 1 = .ok (.istore_n 1, 1) := by decide +kernel
theorem dX12_laysCourses_2 : decode cX12_laysCourses 2 = .ok (.iconst 0, 1) := by decide +kernel
theorem dX12_laysCourses_3 : decode cX12_laysCourses 3 = .ok (.istore_n 2, 1) := by decide +kernel
theorem dX12_laysCourses_4 : decode cX12_laysCourses 4 = .ok (.iload_n 2, 1) := by decide +kernel
theorem dX12_laysCourses_5 : decode cX12_laysCourses 5 = .ok (.bipush 24, 2) := by decide +kernel
theorem dX12_laysCourses_7 : decode cX12_laysCourses 7 = .ok (.if_icmp .ge 174, 3) := by decide +kernel
theorem dX12_laysCourses_10 : decode cX12_laysCourses 10 = .ok (.aload_n 0, 1) := by decide +kernel
theorem dX12_laysCourses_11 : decode cX12_laysCourses 11 = .ok (.getfield 9, 3) := by decide +kernel
theorem dX12_laysCourses_14 : decode cX12_laysCourses 14 = .ok (.iconst 1, 1) := by decide +kernel
theorem dX12_laysCourses_15 : decode cX12_laysCourses 15 = .ok (.iaload, 1) := by decide +kernel
theorem dX12_laysCourses_16 : decode cX12_laysCourses 16 = .ok (.istore_n 3, 1) := by decide +kernel
theorem dX12_laysCourses_17 : decode cX12_laysCourses 17 = .ok (.iconst 0, 1) := by decide +kernel
theorem dX12_laysCourses_18 : decode cX12_laysCourses 18 = .ok (.istore 4, 2) := by decide +kernel
theorem dX12_laysCourses_20 : decode cX12_laysCourses 20 = .ok (.iload 4, 2) := by decide +kernel
theorem dX12_laysCourses_22 : decode cX12_laysCourses 22 = .ok (.bipush 60, 2) := by decide +kernel
theorem dX12_laysCourses_24 : decode cX12_laysCourses 24 = .ok (.if_icmp .gt 59, 3) := by decide +kernel
theorem dX12_laysCourses_27 : decode cX12_laysCourses 27 = .ok (.aload_n 0, 1) := by decide +kernel
theorem dX12_laysCourses_28 : decode cX12_laysCourses 28 = .ok (.getfield 190, 3) := by decide +kernel
theorem dX12_laysCourses_31 : decode cX12_laysCourses 31 = .ok (.bipush 61, 2) := by decide +kernel
theorem dX12_laysCourses_33 : decode cX12_laysCourses 33 = .ok (.iload_n 2, 1) := by decide +kernel
theorem dX12_laysCourses_34 : decode cX12_laysCourses 34 = .ok (.imul, 1) := by decide +kernel
theorem dX12_laysCourses_35 : decode cX12_laysCourses 35 = .ok (.iload 4, 2) := by decide +kernel
theorem dX12_laysCourses_37 : decode cX12_laysCourses 37 = .ok (.iadd, 1) := by decide +kernel
theorem dX12_laysCourses_38 : decode cX12_laysCourses 38 = .ok (.iload_n 3, 1) := by decide +kernel
theorem dX12_laysCourses_39 : decode cX12_laysCourses 39 = .ok (.iastore, 1) := by decide +kernel
theorem dX12_laysCourses_40 : decode cX12_laysCourses 40 = .ok (.iload_n 3, 1) := by decide +kernel
theorem dX12_laysCourses_41 : decode cX12_laysCourses 41 = .ok (.iload 4, 2) := by decide +kernel
theorem dX12_laysCourses_43 : decode cX12_laysCourses 43 = .ok (.aload_n 0, 1) := by decide +kernel
theorem dX12_laysCourses_44 : decode cX12_laysCourses 44 = .ok (.getfield 9, 3) := by decide +kernel
theorem dX12_laysCourses_47 : decode cX12_laysCourses 47 = .ok (.iconst 3, 1) := by decide +kernel
theorem dX12_laysCourses_48 : decode cX12_laysCourses 48 = .ok (.iaload, 1) := by decide +kernel
theorem dX12_laysCourses_49 : decode cX12_laysCourses 49 = .ok (.if_icmp .ge 12, 3) := by decide +kernel
theorem dX12_laysCourses_52 : decode cX12_laysCourses 52 = .ok (.aload_n 0, 1) := by decide +kernel
theorem dX12_laysCourses_53 : decode cX12_laysCourses 53 = .ok (.getfield 9, 3) := by decide +kernel
theorem dX12_laysCourses_56 : decode cX12_laysCourses 56 = .ok (.iconst 2, 1) := by decide +kernel
theorem dX12_laysCourses_57 : decode cX12_laysCourses 57 = .ok (.iaload, 1) := by decide +kernel
theorem dX12_laysCourses_58 : decode cX12_laysCourses 58 = .ok (.goto 6, 3) := by decide +kernel
theorem dX12_laysCourses_61 : decode cX12_laysCourses 61 = .ok (.iload_n 2, 1) := by decide +kernel
theorem dX12_laysCourses_62 : decode cX12_laysCourses 62 = .ok (.iconst 4, 1) := by decide +kernel
theorem dX12_laysCourses_63 : decode cX12_laysCourses 63 = .ok (.irem, 1) := by decide +kernel
theorem dX12_laysCourses_64 : decode cX12_laysCourses 64 = .ok (.iload_n 2, 1) := by decide +kernel
theorem dX12_laysCourses_65 : decode cX12_laysCourses 65 = .ok (.iconst 4, 1) := by decide +kernel
theorem dX12_laysCourses_66 : decode cX12_laysCourses 66 = .ok (.idiv, 1) := by decide +kernel
theorem dX12_laysCourses_67 : decode cX12_laysCourses 67 = .ok (.aload_n 0, 1) := by decide +kernel
theorem dX12_laysCourses_68 : decode cX12_laysCourses 68 = .ok (.iload 4, 2) := by decide +kernel
theorem dX12_laysCourses_70 : decode cX12_laysCourses 70 = .ok (.invokevirtual 476, 3) := by decide +kernel
theorem dX12_laysCourses_73 : decode cX12_laysCourses 73 = .ok (.invokestatic 494, 3) := by decide +kernel
theorem dX12_laysCourses_76 : decode cX12_laysCourses 76 = .ok (.istore_n 3, 1) := by decide +kernel
theorem dX12_laysCourses_77 : decode cX12_laysCourses 77 = .ok (.iinc 4 1, 3) := by decide +kernel
theorem dX12_laysCourses_80 : decode cX12_laysCourses 80 = .ok (.goto (-60), 3) := by decide +kernel
theorem dX12_laysCourses_83 : decode cX12_laysCourses 83 = .ok (.aload_n 0, 1) := by decide +kernel
theorem dX12_laysCourses_84 : decode cX12_laysCourses 84 = .ok (.getfield 193, 3) := by decide +kernel
theorem dX12_laysCourses_87 : decode cX12_laysCourses 87 = .ok (.iload_n 2, 1) := by decide +kernel
theorem dX12_laysCourses_88 : decode cX12_laysCourses 88 = .ok (.iconst 1, 1) := by decide +kernel
theorem dX12_laysCourses_89 : decode cX12_laysCourses 89 = .ok (.bastore, 1) := by decide +kernel
theorem dX12_laysCourses_90 : decode cX12_laysCourses 90 = .ok (.iconst 0, 1) := by decide +kernel
theorem dX12_laysCourses_91 : decode cX12_laysCourses 91 = .ok (.istore 4, 2) := by decide +kernel
theorem dX12_laysCourses_93 : decode cX12_laysCourses 93 = .ok (.iload 4, 2) := by decide +kernel
theorem dX12_laysCourses_95 : decode cX12_laysCourses 95 = .ok (.aload_n 0, 1) := by decide +kernel
theorem dX12_laysCourses_96 : decode cX12_laysCourses 96 = .ok (.getfield 9, 3) := by decide +kernel
theorem dX12_laysCourses_99 : decode cX12_laysCourses 99 = .ok (.bipush 14, 2) := by decide +kernel
theorem dX12_laysCourses_101 : decode cX12_laysCourses 101 = .ok (.iaload, 1) := by decide +kernel
theorem dX12_laysCourses_102 : decode cX12_laysCourses 102 = .ok (.if_icmp .ge 56, 3) := by decide +kernel
theorem dX12_laysCourses_105 : decode cX12_laysCourses 105 = .ok (.aload_n 0, 1) := by decide +kernel
theorem dX12_laysCourses_106 : decode cX12_laysCourses 106 = .ok (.getfield 193, 3) := by decide +kernel
theorem dX12_laysCourses_109 : decode cX12_laysCourses 109 = .ok (.iload_n 2, 1) := by decide +kernel
theorem dX12_laysCourses_110 : decode cX12_laysCourses 110 = .ok (.aload_n 0, 1) := by decide +kernel
theorem dX12_laysCourses_111 : decode cX12_laysCourses 111 = .ok (.getfield 193, 3) := by decide +kernel
theorem dX12_laysCourses_114 : decode cX12_laysCourses 114 = .ok (.iload_n 2, 1) := by decide +kernel
theorem dX12_laysCourses_115 : decode cX12_laysCourses 115 = .ok (.baload, 1) := by decide +kernel
theorem dX12_laysCourses_116 : decode cX12_laysCourses 116 = .ok (.ifCond .eq 34, 3) := by decide +kernel
theorem dX12_laysCourses_119 : decode cX12_laysCourses 119 = .ok (.aload_n 0, 1) := by decide +kernel
theorem dX12_laysCourses_120 : decode cX12_laysCourses 120 = .ok (.getfield 190, 3) := by decide +kernel
theorem dX12_laysCourses_123 : decode cX12_laysCourses 123 = .ok (.bipush 61, 2) := by decide +kernel
theorem dX12_laysCourses_125 : decode cX12_laysCourses 125 = .ok (.iload_n 2, 1) := by decide +kernel
theorem dX12_laysCourses_126 : decode cX12_laysCourses 126 = .ok (.imul, 1) := by decide +kernel
theorem dX12_laysCourses_127 : decode cX12_laysCourses 127 = .ok (.aload_n 0, 1) := by decide +kernel
theorem dX12_laysCourses_128 : decode cX12_laysCourses 128 = .ok (.getfield 61, 3) := by decide +kernel
theorem dX12_laysCourses_131 : decode cX12_laysCourses 131 = .ok (.iload 4, 2) := by decide +kernel
theorem dX12_laysCourses_133 : decode cX12_laysCourses 133 = .ok (.iaload, 1) := by decide +kernel
theorem dX12_laysCourses_134 : decode cX12_laysCourses 134 = .ok (.iadd, 1) := by decide +kernel
theorem dX12_laysCourses_135 : decode cX12_laysCourses 135 = .ok (.iaload, 1) := by decide +kernel
theorem dX12_laysCourses_136 : decode cX12_laysCourses 136 = .ok (.aload_n 0, 1) := by decide +kernel
theorem dX12_laysCourses_137 : decode cX12_laysCourses 137 = .ok (.getfield 64, 3) := by decide +kernel
theorem dX12_laysCourses_140 : decode cX12_laysCourses 140 = .ok (.iload 4, 2) := by decide +kernel
theorem dX12_laysCourses_142 : decode cX12_laysCourses 142 = .ok (.iaload, 1) := by decide +kernel
theorem dX12_laysCourses_143 : decode cX12_laysCourses 143 = .ok (.if_icmp .ne 7, 3) := by decide +kernel
theorem dX12_laysCourses_146 : decode cX12_laysCourses 146 = .ok (.iconst 1, 1) := by decide +kernel
theorem dX12_laysCourses_147 : decode cX12_laysCourses 147 = .ok (.goto 4, 3) := by decide +kernel
theorem dX12_laysCourses_150 : decode cX12_laysCourses 150 = .ok (.iconst 0, 1) := by decide +kernel
theorem dX12_laysCourses_151 : decode cX12_laysCourses 151 = .ok (.bastore, 1) := by decide +kernel
theorem dX12_laysCourses_152 : decode cX12_laysCourses 152 = .ok (.iinc 4 1, 3) := by decide +kernel
theorem dX12_laysCourses_155 : decode cX12_laysCourses 155 = .ok (.goto (-62), 3) := by decide +kernel
theorem dX12_laysCourses_158 : decode cX12_laysCourses 158 = .ok (.iload_n 1, 1) := by decide +kernel
theorem dX12_laysCourses_159 : decode cX12_laysCourses 159 = .ok (.aload_n 0, 1) := by decide +kernel
theorem dX12_laysCourses_160 : decode cX12_laysCourses 160 = .ok (.getfield 193, 3) := by decide +kernel
theorem dX12_laysCourses_163 : decode cX12_laysCourses 163 = .ok (.iload_n 2, 1) := by decide +kernel
theorem dX12_laysCourses_164 : decode cX12_laysCourses 164 = .ok (.baload, 1) := by decide +kernel
theorem dX12_laysCourses_165 : decode cX12_laysCourses 165 = .ok (.ifCond .eq 7, 3) := by decide +kernel
theorem dX12_laysCourses_168 : decode cX12_laysCourses 168 = .ok (.iconst 1, 1) := by decide +kernel
theorem dX12_laysCourses_169 : decode cX12_laysCourses 169 = .ok (.goto 4, 3) := by decide +kernel
theorem dX12_laysCourses_172 : decode cX12_laysCourses 172 = .ok (.iconst 0, 1) := by decide +kernel
theorem dX12_laysCourses_173 : decode cX12_laysCourses 173 = .ok (.iadd, 1) := by decide +kernel
theorem dX12_laysCourses_174 : decode cX12_laysCourses 174 = .ok (.istore_n 1, 1) := by decide +kernel
theorem dX12_laysCourses_175 : decode cX12_laysCourses 175 = .ok (.iinc 2 1, 3) := by decide +kernel
theorem dX12_laysCourses_178 : decode cX12_laysCourses 178 = .ok (.goto (-174), 3) := by decide +kernel
theorem dX12_laysCourses_181 : decode cX12_laysCourses 181 = .ok (.iload_n 1, 1) := by decide +kernel
theorem dX12_laysCourses_182 : decode cX12_laysCourses 182 = .ok (.ireturn, 1) := by decide +kernel
def F_X12_laysCourses_20 (G : GG) (v0 : Nat) (v1 : Int32) (v2 : Int32) (K_83 : AH → Option (Int32 × AH)) (self_20 : Int32 → Int32 → AH → Option (Int32 × AH)) (v3 : Int32) (v4 : Int32) (h : AH) : Option (Int32 × AH) :=
if (60 : Int32) < v4 then (K_83 h) else
ck (m_t h v0 = .inl 12) <|
ob (m_r h v0 79) fun b9 =>
ck (ixb h b9 .int (((61 : Int32) * v2) + v4) = true) <|
nn (m_si h b9 (((61 : Int32) * v2) + v4).toNatClampNeg v3) fun h12 =>
ob (m_r h12 v0 1) fun b13 =>
ck (ixb h12 b13 .int (3 : Int32) = true) <|
nn (fun (s0_64 : Int32) => (cb (f_X12_coldOf G v0 v4 h12) fun r18 h16 =>
cb (f_X12_warmer G v3 s0_64 (v2 / (4 : Int32)) r18 h16) fun r21 h19 =>
nn (v4 + (1 : Int32)) fun x22 =>
self_20 r21 x22 h19)) fun j_64 =>
if (m_i h12 b13 (3 : Int32).toNatClampNeg) ≤ v4 then (j_64 (v2 - v2 / (4 : Int32) * (4 : Int32))) else
ob (m_r h12 v0 1) fun b24 =>
ck (ixb h12 b24 .int (2 : Int32) = true) <|
j_64 (m_i h12 b24 (2 : Int32).toNatClampNeg)
def F_X12_laysCourses_93 (G : GG) (v0 : Nat) (v1 : Int32) (v2 : Int32) (K_158 : AH → Option (Int32 × AH)) (self_93 : Int32 → AH → Option (Int32 × AH)) (v4 : Int32) (h : AH) : Option (Int32 × AH) :=
ck (m_t h v0 = .inl 12) <|
ob (m_r h v0 1) fun b33 =>
ck (ixb h b33 .int (14 : Int32) = true) <|
if (m_i h b33 (14 : Int32).toNatClampNeg) ≤ v4 then (K_158 h) else
ob (m_r h v0 80) fun b37 =>
ob (m_r h v0 80) fun b38 =>
ck (ixb h b38 .boolean v2 = true) <|
nn (fun (s0_151 : Int32) => (ck (ixb h b37 .boolean v2 = true) <|
nn (m_si h b37 v2.toNatClampNeg (s0_151 &&& 1)) fun h43 =>
nn (v4 + (1 : Int32)) fun x44 =>
self_93 x44 h43)) fun j_151 =>
nn (fun (uu_150 : Unit) => (j_151 (0 : Int32))) fun j_150 =>
if (m_i h b38 v2.toNatClampNeg) = 0 then (j_150 ()) else
ob (m_r h v0 79) fun b46 =>
ob (m_r h v0 18) fun b47 =>
ck (ixb h b47 .int v4 = true) <|
ck (ixb h b46 .int (((61 : Int32) * v2) + (m_i h b47 v4.toNatClampNeg)) = true) <|
ob (m_r h v0 19) fun b52 =>
ck (ixb h b52 .int v4 = true) <|
if (m_i h b46 (((61 : Int32) * v2) + (m_i h b47 v4.toNatClampNeg)).toNatClampNeg) = (m_i h b52 v4.toNatClampNeg) then (j_151 (1 : Int32)) else
j_150 ()
def F_X12_laysCourses_4 (G : GG) (v0 : Nat) (self_4 : Int32 → Int32 → AH → Option (Int32 × AH)) (v1 : Int32) (v2 : Int32) (h : AH) : Option (Int32 × AH) :=
if (24 : Int32) ≤ v2 then (some (v1, h)) else
ck (m_t h v0 = .inl 12) <|
ob (m_r h v0 1) fun b3 =>
ck (ixb h b3 .int (1 : Int32) = true) <|
nn (m_i h b3 (1 : Int32).toNatClampNeg) fun x6 =>
lq2 (F_X12_laysCourses_20 G v0 v1 v2 (fun (h_83 : AH) => (ck (m_t h_83 v0 = .inl 12) <|
ob (m_r h_83 v0 80) fun b28 =>
ck (ixb h_83 b28 .boolean v2 = true) <|
nn (m_si h_83 b28 v2.toNatClampNeg ((1 : Int32) &&& 1)) fun h31 =>
lq1 (F_X12_laysCourses_93 G v0 v1 v2 (fun (h_158 : AH) => (ck (m_t h_158 v0 = .inl 12) <|
ob (m_r h_158 v0 80) fun b57 =>
ck (ixb h_158 b57 .boolean v2 = true) <|
nn (fun (s0_173 : Int32) => (nn (v1 + s0_173) fun x60 =>
nn (v2 + (1 : Int32)) fun x61 =>
self_4 x60 x61 h_158)) fun j_173 =>
if (m_i h_158 b57 v2.toNatClampNeg) = 0 then (j_173 (0 : Int32)) else
j_173 (1 : Int32)))) bN (0 : Int32) h31))) bN x6 (0 : Int32) h
def f_X12_laysCourses (G : GG) (v0 : Nat) (h : AH) : Option (Int32 × AH) :=
lq2 (F_X12_laysCourses_4 G v0 ) bN (0 : Int32) (0 : Int32) h
set_option maxHeartbeats 4000000 in
set_option maxRecDepth 100000 in
theorem el_X12_laysCourses_20 {G : GG} {p : Program} {l : Launch} {e : Env} {s : State} {m : MethodId} {args : Array Value} {below : List Frame} {meth : Method} {c : Code} {y : Int32 × AH} (C : Cx G cX12_laysCourses RX12 p s m args meth c) (hm : c.maxLocals = 5) (hr : meth.sig.returnType = (some .int)) (hin : meth.name = yX12_laysCourses.name) {v0 : Nat} {v1 : Int32} {v2 : Int32} {K_83 : AH → Option (Int32 × AH)} (hK_83 : ∀ (h : AH), K_83 h = some y → EE G p l e ({ frames := 2, cells := 0, slots := 0, locals := 47 } : Room) s m args below meth c (some (.int y.1), y.2) 0 0 83 [(0, .ref v0), (1, .int v1), (2, .int v2)] [] h 0 0) :
    ∀ (n : Nat) (v3 : Int32) (v4 : Int32) (h : AH), lq2 (F_X12_laysCourses_20 G v0 v1 v2 K_83) n v3 v4 h = some y → EE G p l e ({ frames := 2, cells := 0, slots := 0, locals := 47 } : Room) s m args below meth c (some (.int y.1), y.2) 0 0 20 [(0, .ref v0), (1, .int v1), (2, .int v2), (3, .int v3), (4, .int v4)] [] h 0 0 := by
  intro n
  induction n with
  | zero => intro v3 v4 h hf; exact (no_e hf).elim
  | succ n ih_20 =>
    intro v3 v4 h hf
    have hf : F_X12_laysCourses_20 G v0 v1 v2 K_83 (lq2 (F_X12_laysCourses_20 G v0 v1 v2 K_83) n) v3 v4 h = some y := hf
    generalize lq2 (F_X12_laysCourses_20 G v0 v1 v2 K_83) n = self_20 at hf ih_20
    unfold F_X12_laysCourses_20 at hf
    refine e_iload (pc := 20) C dX12_laysCourses_20 4 rfl ?_
    refine e_bipush (v := (60 : Int32)) (pc := 22) C dX12_laysCourses_22 (by decide) ?_
    rcases it_e hf with ⟨c7, hf⟩ | ⟨c7, hf⟩
    · refine e_icmp_gt (pc := 24) (tgt := 83) C dX12_laysCourses_24 (by decide) (fun _ => ?_) (fun q => absurd c7 q)
      refine e_lv (lv2 := [(0, .ref v0), (1, .int v1), (2, .int v2)]) [0, 1, 2] rfl ?_
      exact hK_83 h hf
    · refine e_icmp_gt (pc := 24) (tgt := 83) C dX12_laysCourses_24 (by decide) (fun q => absurd q c7) (fun _ => ?_)
      refine e_aload_n (pc := 27) C dX12_laysCourses_27 0 rfl rfl ?_
      obtain ⟨t8, hf⟩ := ck_e hf
      refine e_getr (pc := 28) 12 79 C dX12_laysCourses_28 (by decide) (by decide) g1480 rfl t8 ?_
      obtain ⟨b9, eb9, hf⟩ := ob_e hf
      refine e_rf eb9 ?_
      refine e_bipush (v := (61 : Int32)) (pc := 31) C dX12_laysCourses_31 (by decide) ?_
      refine e_iload_n (pc := 33) C dX12_laysCourses_33 2 rfl rfl ?_
      refine e_imul (pc := 34) C dX12_laysCourses_34 ?_
      refine e_iload (pc := 35) C dX12_laysCourses_35 4 rfl ?_
      refine e_iadd (pc := 37) C dX12_laysCourses_37 ?_
      refine e_iload_n (pc := 38) C dX12_laysCourses_38 3 rfl rfl ?_
      obtain ⟨q10, hf⟩ := ck_e hf
      obtain ⟨n11, tn11, in11⟩ := ix_e q10
      refine e_iast (pc := 39) C dX12_laysCourses_39 tn11 in11 ?_
      obtain ⟨h12, eh12, hf⟩ := nn_e hf
      refine e_hp eh12 ?_
      have uh12 : m_t h12 = m_t h := by rw [eh12]; exact rfl
      refine e_iload_n (pc := 40) C dX12_laysCourses_40 3 rfl rfl ?_
      refine e_iload (pc := 41) C dX12_laysCourses_41 4 rfl ?_
      refine e_aload_n (pc := 43) C dX12_laysCourses_43 0 rfl rfl ?_
      refine e_getr (pc := 44) 12 1 C dX12_laysCourses_44 (by decide) (by decide) g1402 rfl (e_mt uh12 t8) ?_
      obtain ⟨b13, eb13, hf⟩ := ob_e hf
      refine e_rf eb13 ?_
      refine e_iconst (v := (3 : Int32)) (pc := 47) C dX12_laysCourses_47 (by decide) ?_
      obtain ⟨q14, hf⟩ := ck_e hf
      obtain ⟨n15, tn15, in15⟩ := ix_e q14
      refine e_iald (pc := 48) C dX12_laysCourses_48 tn15 in15 ?_
      obtain ⟨j_64, ej_64, hf⟩ := nn_e hf
      have W_64 : ∀ (s0_64 : Int32), j_64 s0_64 = some y → EE G p l e ({ frames := 2, cells := 0, slots := 0, locals := 47 } : Room) s m args below meth c (some (.int y.1), y.2) 0 0 64 [(0, .ref v0), (1, .int v1), (2, .int v2), (4, .int v4)] [.int s0_64, .int v3] h12 0 0 := by
        intro s0_64 hf
        rw [ej_64] at hf
        refine e_iload_n (pc := 64) C dX12_laysCourses_64 2 rfl rfl ?_
        refine e_iconst (v := (4 : Int32)) (pc := 65) C dX12_laysCourses_65 (by decide) ?_
        refine e_idiv (pc := 66) C dX12_laysCourses_66 (by decide) ?_
        refine e_aload_n (pc := 67) C dX12_laysCourses_67 0 rfl rfl ?_
        refine e_iload (pc := 68) C dX12_laysCourses_68 3 rfl ?_
        obtain ⟨r18, h16, y17, hf⟩ := cb_e hf
        refine e_callVi (pc := 70) (st := [.int (v2 / (4 : Int32)), .int s0_64, .int v3]) 12 C (ct_X12_coldOf y17) dX12_laysCourses_70 (by decide) (e_mt uh12 t8) g1916 g1918 g97 g157 g1919 hd_X12_coldOf rfl ⟨Nat.le_of_ble_eq_true rfl, Nat.le_of_ble_eq_true rfl⟩ ⟨Nat.le_of_ble_eq_true rfl, Nat.le_of_ble_eq_true rfl⟩ rfl (Nat.le_of_ble_eq_true rfl) ?_
        obtain ⟨r21, h19, y20, hf⟩ := cb_e hf
        refine e_callSi (pc := 73) (st := []) C (ct_X12_warmer y20) dX12_laysCourses_73 g1989 g1990 g157 g1991 hd_X12_warmer rfl ⟨Nat.le_of_ble_eq_true rfl, Nat.le_of_ble_eq_true rfl⟩ ⟨Nat.le_of_ble_eq_true rfl, Nat.le_of_ble_eq_true rfl⟩ rfl (Nat.le_of_ble_eq_true rfl) ?_
        refine e_istore_n (pc := 76) (lv2 := [(3, .int r21), (0, .ref v0), (1, .int v1), (2, .int v2), (4, .int v4)]) C hm dX12_laysCourses_76 rfl (by decide) rfl ?_
        obtain ⟨x22, ex22, hf⟩ := nn_e hf
        refine e_iinc (pc := 77) (v := x22) (lv2 := [(4, .int x22), (3, .int r21), (0, .ref v0), (1, .int v1), (2, .int v2)]) C hm dX12_laysCourses_77 4 rfl (by rw [ex22]; rfl) (by decide) rfl ?_
        refine e_goto (pc := 80) (tgt := 20) C dX12_laysCourses_80 (by decide) ?_
        refine e_lv (lv2 := [(0, .ref v0), (1, .int v1), (2, .int v2), (3, .int r21), (4, .int x22)]) [2, 3, 4, 1, 0] rfl ?_
        exact ih_20 r21 x22 h19 hf
      rcases it_e hf with ⟨c23, hf⟩ | ⟨c23, hf⟩
      · refine e_icmp_ge (pc := 49) (tgt := 61) C dX12_laysCourses_49 (by decide) (fun _ => ?_) (fun q => absurd c23 q)
        refine e_iload_n (pc := 61) C dX12_laysCourses_61 2 rfl rfl ?_
        refine e_iconst (v := (4 : Int32)) (pc := 62) C dX12_laysCourses_62 (by decide) ?_
        refine e_irem (pc := 63) C dX12_laysCourses_63 (by decide) ?_
        refine e_lv (lv2 := [(0, .ref v0), (1, .int v1), (2, .int v2), (4, .int v4)]) [0, 1, 2, 4] rfl ?_
        exact W_64 (v2 - v2 / (4 : Int32) * (4 : Int32)) hf
      · refine e_icmp_ge (pc := 49) (tgt := 61) C dX12_laysCourses_49 (by decide) (fun q => absurd q c23) (fun _ => ?_)
        refine e_aload_n (pc := 52) C dX12_laysCourses_52 0 rfl rfl ?_
        refine e_getr (pc := 53) 12 1 C dX12_laysCourses_53 (by decide) (by decide) g1402 rfl (e_mt uh12 t8) ?_
        obtain ⟨b24, eb24, hf⟩ := ob_e hf
        refine e_rf eb24 ?_
        refine e_iconst (v := (2 : Int32)) (pc := 56) C dX12_laysCourses_56 (by decide) ?_
        obtain ⟨q25, hf⟩ := ck_e hf
        obtain ⟨n26, tn26, in26⟩ := ix_e q25
        refine e_iald (pc := 57) C dX12_laysCourses_57 tn26 in26 ?_
        refine e_goto (pc := 58) (tgt := 64) C dX12_laysCourses_58 (by decide) ?_
        refine e_lv (lv2 := [(0, .ref v0), (1, .int v1), (2, .int v2), (4, .int v4)]) [0, 1, 2, 4] rfl ?_
        exact W_64 (m_i h12 b24 (2 : Int32).toNatClampNeg) hf
set_option maxHeartbeats 4000000 in
set_option maxRecDepth 100000 in
theorem el_X12_laysCourses_93 {G : GG} {p : Program} {l : Launch} {e : Env} {s : State} {m : MethodId} {args : Array Value} {below : List Frame} {meth : Method} {c : Code} {y : Int32 × AH} (C : Cx G cX12_laysCourses RX12 p s m args meth c) (hm : c.maxLocals = 5) (hr : meth.sig.returnType = (some .int)) (hin : meth.name = yX12_laysCourses.name) {v0 : Nat} {v1 : Int32} {v2 : Int32} {K_158 : AH → Option (Int32 × AH)} (hK_158 : ∀ (h : AH), K_158 h = some y → EE G p l e ({ frames := 2, cells := 0, slots := 0, locals := 47 } : Room) s m args below meth c (some (.int y.1), y.2) 0 0 158 [(0, .ref v0), (1, .int v1), (2, .int v2)] [] h 0 0) :
    ∀ (n : Nat) (v4 : Int32) (h : AH), lq1 (F_X12_laysCourses_93 G v0 v1 v2 K_158) n v4 h = some y → EE G p l e ({ frames := 2, cells := 0, slots := 0, locals := 47 } : Room) s m args below meth c (some (.int y.1), y.2) 0 0 93 [(0, .ref v0), (1, .int v1), (2, .int v2), (4, .int v4)] [] h 0 0 := by
  intro n
  induction n with
  | zero => intro v4 h hf; exact (no_e hf).elim
  | succ n ih_93 =>
    intro v4 h hf
    have hf : F_X12_laysCourses_93 G v0 v1 v2 K_158 (lq1 (F_X12_laysCourses_93 G v0 v1 v2 K_158) n) v4 h = some y := hf
    generalize lq1 (F_X12_laysCourses_93 G v0 v1 v2 K_158) n = self_93 at hf ih_93
    unfold F_X12_laysCourses_93 at hf
    refine e_iload (pc := 93) C dX12_laysCourses_93 3 rfl ?_
    refine e_aload_n (pc := 95) C dX12_laysCourses_95 0 rfl rfl ?_
    obtain ⟨t32, hf⟩ := ck_e hf
    refine e_getr (pc := 96) 12 1 C dX12_laysCourses_96 (by decide) (by decide) g1402 rfl t32 ?_
    obtain ⟨b33, eb33, hf⟩ := ob_e hf
    refine e_rf eb33 ?_
    refine e_bipush (v := (14 : Int32)) (pc := 99) C dX12_laysCourses_99 (by decide) ?_
    obtain ⟨q34, hf⟩ := ck_e hf
    obtain ⟨n35, tn35, in35⟩ := ix_e q34
    refine e_iald (pc := 101) C dX12_laysCourses_101 tn35 in35 ?_
    rcases it_e hf with ⟨c36, hf⟩ | ⟨c36, hf⟩
    · refine e_icmp_ge (pc := 102) (tgt := 158) C dX12_laysCourses_102 (by decide) (fun _ => ?_) (fun q => absurd c36 q)
      refine e_lv (lv2 := [(0, .ref v0), (1, .int v1), (2, .int v2)]) [0, 1, 2] rfl ?_
      exact hK_158 h hf
    · refine e_icmp_ge (pc := 102) (tgt := 158) C dX12_laysCourses_102 (by decide) (fun q => absurd q c36) (fun _ => ?_)
      refine e_aload_n (pc := 105) C dX12_laysCourses_105 0 rfl rfl ?_
      refine e_getr (pc := 106) 12 80 C dX12_laysCourses_106 (by decide) (by decide) g1481 rfl t32 ?_
      obtain ⟨b37, eb37, hf⟩ := ob_e hf
      refine e_rf eb37 ?_
      refine e_iload_n (pc := 109) C dX12_laysCourses_109 2 rfl rfl ?_
      refine e_aload_n (pc := 110) C dX12_laysCourses_110 0 rfl rfl ?_
      refine e_getr (pc := 111) 12 80 C dX12_laysCourses_111 (by decide) (by decide) g1481 rfl t32 ?_
      obtain ⟨b38, eb38, hf⟩ := ob_e hf
      refine e_rf eb38 ?_
      refine e_iload_n (pc := 114) C dX12_laysCourses_114 2 rfl rfl ?_
      obtain ⟨q39, hf⟩ := ck_e hf
      obtain ⟨n40, tn40, in40⟩ := ix_e q39
      refine e_zald (pc := 115) C dX12_laysCourses_115 tn40 in40 ?_
      obtain ⟨j_151, ej_151, hf⟩ := nn_e hf
      have W_151 : ∀ (s0_151 : Int32), j_151 s0_151 = some y → EE G p l e ({ frames := 2, cells := 0, slots := 0, locals := 47 } : Room) s m args below meth c (some (.int y.1), y.2) 0 0 151 [(0, .ref v0), (1, .int v1), (2, .int v2), (4, .int v4)] [.int s0_151, .int v2, .ref b37] h 0 0 := by
        intro s0_151 hf
        rw [ej_151] at hf
        obtain ⟨q41, hf⟩ := ck_e hf
        obtain ⟨n42, tn42, in42⟩ := ix_e q41
        refine e_zast (pc := 151) C dX12_laysCourses_151 tn42 in42 ?_
        obtain ⟨h43, eh43, hf⟩ := nn_e hf
        refine e_hp eh43 ?_
        have uh43 : m_t h43 = m_t h := by rw [eh43]; exact rfl
        obtain ⟨x44, ex44, hf⟩ := nn_e hf
        refine e_iinc (pc := 152) (v := x44) (lv2 := [(4, .int x44), (0, .ref v0), (1, .int v1), (2, .int v2)]) C hm dX12_laysCourses_152 3 rfl (by rw [ex44]; rfl) (by decide) rfl ?_
        refine e_goto (pc := 155) (tgt := 93) C dX12_laysCourses_155 (by decide) ?_
        refine e_lv (lv2 := [(0, .ref v0), (1, .int v1), (2, .int v2), (4, .int x44)]) [1, 2, 3, 0] rfl ?_
        exact ih_93 x44 h43 hf
      obtain ⟨j_150, ej_150, hf⟩ := nn_e hf
      have W_150 : ∀ (uu_150 : Unit), j_150 uu_150 = some y → EE G p l e ({ frames := 2, cells := 0, slots := 0, locals := 47 } : Room) s m args below meth c (some (.int y.1), y.2) 0 0 150 [(0, .ref v0), (1, .int v1), (2, .int v2), (4, .int v4)] [.int v2, .ref b37] h 0 0 := by
        intro uu_150 hf
        rw [ej_150] at hf
        refine e_iconst (v := (0 : Int32)) (pc := 150) C dX12_laysCourses_150 (by decide) ?_
        exact W_151 (0 : Int32) hf
      rcases it_e hf with ⟨c45, hf⟩ | ⟨c45, hf⟩
      · refine e_if_eq (pc := 116) (tgt := 150) C dX12_laysCourses_116 (by decide) (fun _ => ?_) (fun q => absurd c45 q)
        exact W_150 () hf
      · refine e_if_eq (pc := 116) (tgt := 150) C dX12_laysCourses_116 (by decide) (fun q => absurd q c45) (fun _ => ?_)
        refine e_aload_n (pc := 119) C dX12_laysCourses_119 0 rfl rfl ?_
        refine e_getr (pc := 120) 12 79 C dX12_laysCourses_120 (by decide) (by decide) g1480 rfl t32 ?_
        obtain ⟨b46, eb46, hf⟩ := ob_e hf
        refine e_rf eb46 ?_
        refine e_bipush (v := (61 : Int32)) (pc := 123) C dX12_laysCourses_123 (by decide) ?_
        refine e_iload_n (pc := 125) C dX12_laysCourses_125 2 rfl rfl ?_
        refine e_imul (pc := 126) C dX12_laysCourses_126 ?_
        refine e_aload_n (pc := 127) C dX12_laysCourses_127 0 rfl rfl ?_
        refine e_getr (pc := 128) 12 18 C dX12_laysCourses_128 (by decide) (by decide) g1419 rfl t32 ?_
        obtain ⟨b47, eb47, hf⟩ := ob_e hf
        refine e_rf eb47 ?_
        refine e_iload (pc := 131) C dX12_laysCourses_131 3 rfl ?_
        obtain ⟨q48, hf⟩ := ck_e hf
        obtain ⟨n49, tn49, in49⟩ := ix_e q48
        refine e_iald (pc := 133) C dX12_laysCourses_133 tn49 in49 ?_
        refine e_iadd (pc := 134) C dX12_laysCourses_134 ?_
        obtain ⟨q50, hf⟩ := ck_e hf
        obtain ⟨n51, tn51, in51⟩ := ix_e q50
        refine e_iald (pc := 135) C dX12_laysCourses_135 tn51 in51 ?_
        refine e_aload_n (pc := 136) C dX12_laysCourses_136 0 rfl rfl ?_
        refine e_getr (pc := 137) 12 19 C dX12_laysCourses_137 (by decide) (by decide) g1420 rfl t32 ?_
        obtain ⟨b52, eb52, hf⟩ := ob_e hf
        refine e_rf eb52 ?_
        refine e_iload (pc := 140) C dX12_laysCourses_140 3 rfl ?_
        obtain ⟨q53, hf⟩ := ck_e hf
        obtain ⟨n54, tn54, in54⟩ := ix_e q53
        refine e_iald (pc := 142) C dX12_laysCourses_142 tn54 in54 ?_
        rcases it_e hf with ⟨c55, hf⟩ | ⟨c55, hf⟩
        · refine e_icmp_ne (pc := 143) (tgt := 150) C dX12_laysCourses_143 (by decide) (fun q => absurd c55 q) (fun _ => ?_)
          refine e_iconst (v := (1 : Int32)) (pc := 146) C dX12_laysCourses_146 (by decide) ?_
          refine e_goto (pc := 147) (tgt := 151) C dX12_laysCourses_147 (by decide) ?_
          exact W_151 (1 : Int32) hf
        · refine e_icmp_ne (pc := 143) (tgt := 150) C dX12_laysCourses_143 (by decide) (fun _ => ?_) (fun q => absurd q c55)
          exact W_150 () hf
set_option maxHeartbeats 4000000 in
set_option maxRecDepth 100000 in
theorem el_X12_laysCourses_4 {G : GG} {p : Program} {l : Launch} {e : Env} {s : State} {m : MethodId} {args : Array Value} {below : List Frame} {meth : Method} {c : Code} {y : Int32 × AH} (C : Cx G cX12_laysCourses RX12 p s m args meth c) (hm : c.maxLocals = 5) (hr : meth.sig.returnType = (some .int)) (hin : meth.name = yX12_laysCourses.name) {v0 : Nat}  :
    ∀ (n : Nat) (v1 : Int32) (v2 : Int32) (h : AH), lq2 (F_X12_laysCourses_4 G v0) n v1 v2 h = some y → EE G p l e ({ frames := 2, cells := 0, slots := 0, locals := 47 } : Room) s m args below meth c (some (.int y.1), y.2) 0 0 4 [(0, .ref v0), (1, .int v1), (2, .int v2)] [] h 0 0 := by
  intro n
  induction n with
  | zero => intro v1 v2 h hf; exact (no_e hf).elim
  | succ n ih_4 =>
    intro v1 v2 h hf
    have hf : F_X12_laysCourses_4 G v0 (lq2 (F_X12_laysCourses_4 G v0) n) v1 v2 h = some y := hf
    generalize lq2 (F_X12_laysCourses_4 G v0) n = self_4 at hf ih_4
    unfold F_X12_laysCourses_4 at hf
    refine e_iload_n (pc := 4) C dX12_laysCourses_4 2 rfl rfl ?_
    refine e_bipush (v := (24 : Int32)) (pc := 5) C dX12_laysCourses_5 (by decide) ?_
    rcases it_e hf with ⟨c1, hf⟩ | ⟨c1, hf⟩
    · refine e_icmp_ge (pc := 7) (tgt := 181) C dX12_laysCourses_7 (by decide) (fun _ => ?_) (fun q => absurd c1 q)
      refine e_iload_n (pc := 181) C dX12_laysCourses_181 1 rfl rfl ?_
      obtain rfl := so_e hf
      exact e_iret (pc := 182) C hr dX12_laysCourses_182 (Nat.le_of_ble_eq_true rfl) (Nat.le_of_ble_eq_true rfl)
    · refine e_icmp_ge (pc := 7) (tgt := 181) C dX12_laysCourses_7 (by decide) (fun q => absurd q c1) (fun _ => ?_)
      refine e_aload_n (pc := 10) C dX12_laysCourses_10 0 rfl rfl ?_
      obtain ⟨t2, hf⟩ := ck_e hf
      refine e_getr (pc := 11) 12 1 C dX12_laysCourses_11 (by decide) (by decide) g1402 rfl t2 ?_
      obtain ⟨b3, eb3, hf⟩ := ob_e hf
      refine e_rf eb3 ?_
      refine e_iconst (v := (1 : Int32)) (pc := 14) C dX12_laysCourses_14 (by decide) ?_
      obtain ⟨q4, hf⟩ := ck_e hf
      obtain ⟨n5, tn5, in5⟩ := ix_e q4
      refine e_iald (pc := 15) C dX12_laysCourses_15 tn5 in5 ?_
      obtain ⟨x6, ex6, hf⟩ := nn_e hf
      refine e_topi ex6 ?_
      refine e_istore_n (pc := 16) (lv2 := [(3, .int x6), (0, .ref v0), (1, .int v1), (2, .int v2)]) C hm dX12_laysCourses_16 rfl (by decide) rfl ?_
      refine e_iconst (v := (0 : Int32)) (pc := 17) C dX12_laysCourses_17 (by decide) ?_
      refine e_istore (pc := 18) (lv2 := [(4, .int (0 : Int32)), (3, .int x6), (0, .ref v0), (1, .int v1), (2, .int v2)]) C hm dX12_laysCourses_18 (by decide) rfl ?_
      refine e_lv (lv2 := [(0, .ref v0), (1, .int v1), (2, .int v2), (3, .int x6), (4, .int (0 : Int32))]) [2, 3, 4, 1, 0] rfl ?_
      refine el_X12_laysCourses_20 C hm hr hin (fun h_83 hf => ?_) bN x6 (0 : Int32) h hf
      refine e_aload_n (pc := 83) C dX12_laysCourses_83 0 rfl rfl ?_
      obtain ⟨t27, hf⟩ := ck_e hf
      refine e_getr (pc := 84) 12 80 C dX12_laysCourses_84 (by decide) (by decide) g1481 rfl t27 ?_
      obtain ⟨b28, eb28, hf⟩ := ob_e hf
      refine e_rf eb28 ?_
      refine e_iload_n (pc := 87) C dX12_laysCourses_87 2 rfl rfl ?_
      refine e_iconst (v := (1 : Int32)) (pc := 88) C dX12_laysCourses_88 (by decide) ?_
      obtain ⟨q29, hf⟩ := ck_e hf
      obtain ⟨n30, tn30, in30⟩ := ix_e q29
      refine e_zast (pc := 89) C dX12_laysCourses_89 tn30 in30 ?_
      obtain ⟨h31, eh31, hf⟩ := nn_e hf
      refine e_hp eh31 ?_
      have uh31 : m_t h31 = m_t h_83 := by rw [eh31]; exact rfl
      refine e_iconst (v := (0 : Int32)) (pc := 90) C dX12_laysCourses_90 (by decide) ?_
      refine e_istore (pc := 91) (lv2 := [(4, .int (0 : Int32)), (0, .ref v0), (1, .int v1), (2, .int v2)]) C hm dX12_laysCourses_91 (by decide) rfl ?_
      refine e_lv (lv2 := [(0, .ref v0), (1, .int v1), (2, .int v2), (4, .int (0 : Int32))]) [1, 2, 3, 0] rfl ?_
      refine el_X12_laysCourses_93 C hm hr hin (fun h_158 hf => ?_) bN (0 : Int32) h31 hf
      refine e_iload_n (pc := 158) C dX12_laysCourses_158 1 rfl rfl ?_
      refine e_aload_n (pc := 159) C dX12_laysCourses_159 0 rfl rfl ?_
      obtain ⟨t56, hf⟩ := ck_e hf
      refine e_getr (pc := 160) 12 80 C dX12_laysCourses_160 (by decide) (by decide) g1481 rfl t56 ?_
      obtain ⟨b57, eb57, hf⟩ := ob_e hf
      refine e_rf eb57 ?_
      refine e_iload_n (pc := 163) C dX12_laysCourses_163 2 rfl rfl ?_
      obtain ⟨q58, hf⟩ := ck_e hf
      obtain ⟨n59, tn59, in59⟩ := ix_e q58
      refine e_zald (pc := 164) C dX12_laysCourses_164 tn59 in59 ?_
      obtain ⟨j_173, ej_173, hf⟩ := nn_e hf
      have W_173 : ∀ (s0_173 : Int32), j_173 s0_173 = some y → EE G p l e ({ frames := 2, cells := 0, slots := 0, locals := 47 } : Room) s m args below meth c (some (.int y.1), y.2) 0 0 173 [(0, .ref v0), (2, .int v2)] [.int s0_173, .int v1] h_158 0 0 := by
        intro s0_173 hf
        rw [ej_173] at hf
        refine e_iadd (pc := 173) C dX12_laysCourses_173 ?_
        obtain ⟨x60, ex60, hf⟩ := nn_e hf
        refine e_topi ex60 ?_
        refine e_istore_n (pc := 174) (lv2 := [(1, .int x60), (0, .ref v0), (2, .int v2)]) C hm dX12_laysCourses_174 rfl (by decide) rfl ?_
        obtain ⟨x61, ex61, hf⟩ := nn_e hf
        refine e_iinc (pc := 175) (v := x61) (lv2 := [(2, .int x61), (1, .int x60), (0, .ref v0)]) C hm dX12_laysCourses_175 2 rfl (by rw [ex61]; rfl) (by decide) rfl ?_
        refine e_goto (pc := 178) (tgt := 4) C dX12_laysCourses_178 (by decide) ?_
        refine e_lv (lv2 := [(0, .ref v0), (1, .int x60), (2, .int x61)]) [2, 1, 0] rfl ?_
        exact ih_4 x60 x61 h_158 hf
      rcases it_e hf with ⟨c62, hf⟩ | ⟨c62, hf⟩
      · refine e_if_eq (pc := 165) (tgt := 172) C dX12_laysCourses_165 (by decide) (fun _ => ?_) (fun q => absurd c62 q)
        refine e_iconst (v := (0 : Int32)) (pc := 172) C dX12_laysCourses_172 (by decide) ?_
        refine e_lv (lv2 := [(0, .ref v0), (2, .int v2)]) [0, 2] rfl ?_
        exact W_173 (0 : Int32) hf
      · refine e_if_eq (pc := 165) (tgt := 172) C dX12_laysCourses_165 (by decide) (fun q => absurd q c62) (fun _ => ?_)
        refine e_iconst (v := (1 : Int32)) (pc := 168) C dX12_laysCourses_168 (by decide) ?_
        refine e_goto (pc := 169) (tgt := 173) C dX12_laysCourses_169 (by decide) ?_
        refine e_lv (lv2 := [(0, .ref v0), (2, .int v2)]) [0, 2] rfl ?_
        exact W_173 (1 : Int32) hf
set_option maxHeartbeats 4000000 in
set_option maxRecDepth 100000 in
theorem ct_X12_laysCourses {G : GG} {l : Launch} {v0 : Nat} {h : AH} {y : Int32 × AH} (hf : f_X12_laysCourses G v0 h = some y) : Ct G l yX12_laysCourses cX12_laysCourses 5 (some .int) 2 47 0 0 [.ref v0] h (some (.int y.1), y.2) := by
  refine ct_of (by decide) (Nat.le_of_ble_eq_true rfl) ?_
  intro p e s m args below meth c C hm hr hin
  have C : Cx G cX12_laysCourses RX12 p s m args meth c := C
  refine e_lv (lv2 := [(0, .ref v0)]) [0] rfl ?_
  unfold f_X12_laysCourses at hf
  refine e_iconst (v := (0 : Int32)) (pc := 0) C dX12_laysCourses_0 (by decide) ?_
  refine e_istore_n (pc := 1) (lv2 := [(1, .int (0 : Int32)), (0, .ref v0)]) C hm dX12_laysCourses_1 rfl (by decide) rfl ?_
  refine e_iconst (v := (0 : Int32)) (pc := 2) C dX12_laysCourses_2 (by decide) ?_
  refine e_istore_n (pc := 3) (lv2 := [(2, .int (0 : Int32)), (1, .int (0 : Int32)), (0, .ref v0)]) C hm dX12_laysCourses_3 rfl (by decide) rfl ?_
  refine e_lv (lv2 := [(0, .ref v0), (1, .int (0 : Int32)), (2, .int (0 : Int32))]) [2, 1, 0] rfl ?_
  exact el_X12_laysCourses_4 C hm hr hin bN (0 : Int32) (0 : Int32) h hf
theorem dX12_ruled_0 : decode cX12_ruled 0 = .ok (.aload_n 0, 1) := by decide +kernel
theorem dX12_ruled_1 : decode cX12_ruled 1 = .ok (.invokevirtual 468, 3) := by decide +kernel
theorem dX12_ruled_4 : decode cX12_ruled 4 = .ok (.ifCond .eq 15, 3) := by decide +kernel
theorem dX12_ruled_7 : decode cX12_ruled 7 = .ok (.iload_n 1, 1) := by decide +kernel
theorem dX12_ruled_8 : decode cX12_ruled 8 = .ok (.i2l, 1) := by decide +kernel
theorem dX12_ruled_9 : decode cX12_ruled 9 = .ok (.lconst 0, 1) := by decide +kernel
theorem dX12_ruled_10 : decode cX12_ruled 10 = .ok (.ldc2_w 549, 3) := by decide +kernel
theorem dX12_ruled_13 : decode cX12_ruled 13 = .ok (.invokestatic 206, 3) := by decide +kernel
theorem dX12_ruled_16 : decode cX12_ruled 16 = .ok (.ifCond .ne 5, 3) := by decide +kernel
theorem dX12_ruled_19 : decode cX12_ruled 19 = .ok (.iconst (-1), 1) := by decide +kernel
theorem dX12_ruled_20 : decode cX12_ruled 20 = .ok (.ireturn, 1) := by decide +kernel
theorem dX12_ruled_21 : decode cX12_ruled 21 = .ok (.aload_n 0, 1) := by decide +kernel
theorem dX12_ruled_22 : decode cX12_ruled 22 = .ok (.invokevirtual 672, 3) := by decide +kernel
theorem dX12_ruled_25 : decode cX12_ruled 25 = .ok (.istore_n 2, 1) := by decide +kernel
theorem dX12_ruled_26 : decode cX12_ruled 26 = .ok (.bipush (-2), 2) := by decide +kernel
theorem dX12_ruled_28 : decode cX12_ruled 28 = .ok (.istore_n 3, 1) := by decide +kernel
theorem dX12_ruled_29 : decode cX12_ruled 29 = .ok (.bipush 23, 2) := by decide +kernel
theorem dX12_ruled_31 : decode cX12_ruled 31 = .ok (.istore 4, 2) := by decide +kernel
theorem dX12_ruled_33 : decode cX12_ruled 33 = .ok (.iload 4, 2) := by decide +kernel
theorem dX12_ruled_35 : decode cX12_ruled 35 = .ok (.ifCond .lt 26, 3) := by decide +kernel
theorem dX12_ruled_38 : decode cX12_ruled 38 = .ok (.aload_n 0, 1) := by decide +kernel
theorem dX12_ruled_39 : decode cX12_ruled 39 = .ok (.getfield 193, 3) := by decide +kernel
theorem dX12_ruled_42 : decode cX12_ruled 42 = .ok (.iload 4, 2) := by decide +kernel
theorem dX12_ruled_44 : decode cX12_ruled 44 = .ok (.baload, 1) := by decide +kernel
theorem dX12_ruled_45 : decode cX12_ruled 45 = .ok (.ifCond .eq 8, 3) := by decide +kernel
theorem dX12_ruled_48 : decode cX12_ruled 48 = .ok (.iload 4, 2) := by decide +kernel
theorem dX12_ruled_50 : decode cX12_ruled 50 = .ok (.goto 4, 3) := by decide +kernel
theorem dX12_ruled_53 : decode cX12_ruled 53 = .ok (.iload_n 3, 1) := by decide +kernel
theorem dX12_ruled_54 : decode cX12_ruled 54 = .ok (.istore_n 3, 1) := by decide +kernel
theorem dX12_ruled_55 : decode cX12_ruled 55 = .ok (.iinc 4 (-1), 3) := by decide +kernel
theorem dX12_ruled_58 : decode cX12_ruled 58 = .ok (.goto (-25), 3) := by decide +kernel
theorem dX12_ruled_61 : decode cX12_ruled 61 = .ok (.iload_n 1, 1) := by decide +kernel
theorem dX12_ruled_62 : decode cX12_ruled 62 = .ok (.ifCond .ne 5, 3) := by decide +kernel
theorem dX12_ruled_65 : decode cX12_ruled 65 = .ok (.iload_n 2, 1) := by decide +kernel
theorem dX12_ruled_66 : decode cX12_ruled 66 = .ok (.ireturn, 1) := by decide +kernel
theorem dX12_ruled_67 : decode cX12_ruled 67 = .ok (.iload_n 2, 1) := by decide +kernel
theorem dX12_ruled_68 : decode cX12_ruled 68 = .ok (.ifCond .ne 8, 3) := by decide +kernel
theorem dX12_ruled_71 : decode cX12_ruled 71 = .ok (.bipush (-2), 2) := by decide +kernel
theorem dX12_ruled_73 : decode cX12_ruled 73 = .ok (.goto 17, 3) := by decide +kernel
theorem dX12_ruled_76 : decode cX12_ruled 76 = .ok (.iload_n 1, 1) := by decide +kernel
theorem dX12_ruled_77 : decode cX12_ruled 77 = .ok (.iconst 1, 1) := by decide +kernel
theorem dX12_ruled_78 : decode cX12_ruled 78 = .ok (.if_icmp .ne 9, 3) := by decide +kernel
theorem dX12_ruled_81 : decode cX12_ruled 81 = .ok (.iload_n 3, 1) := by decide +kernel
theorem dX12_ruled_82 : decode cX12_ruled 82 = .ok (.iconst 4, 1) := by decide +kernel
theorem dX12_ruled_83 : decode cX12_ruled 83 = .ok (.idiv, 1) := by decide +kernel
theorem dX12_ruled_84 : decode cX12_ruled 84 = .ok (.goto 6, 3) := by decide +kernel
theorem dX12_ruled_87 : decode cX12_ruled 87 = .ok (.iload_n 3, 1) := by decide +kernel
theorem dX12_ruled_88 : decode cX12_ruled 88 = .ok (.iconst 4, 1) := by decide +kernel
theorem dX12_ruled_89 : decode cX12_ruled 89 = .ok (.irem, 1) := by decide +kernel
theorem dX12_ruled_90 : decode cX12_ruled 90 = .ok (.ireturn, 1) := by decide +kernel
def F_X12_ruled_33 (G : GG) (v0 : Nat) (v1 : Int32) (v2 : Int32) (K_61 : Int32 → AH → Option (Int32 × AH)) (self_33 : Int32 → Int32 → AH → Option (Int32 × AH)) (v3 : Int32) (v4 : Int32) (h : AH) : Option (Int32 × AH) :=
if v4 < 0 then (K_61 v3 h) else
ck (m_t h v0 = .inl 12) <|
ob (m_r h v0 80) fun b16 =>
ck (ixb h b16 .boolean v4 = true) <|
nn (fun (s0_54 : Int32) => (nn (v4 + (-1 : Int32)) fun x19 =>
self_33 s0_54 x19 h)) fun j_54 =>
if (m_i h b16 v4.toNatClampNeg) = 0 then (j_54 v3) else
j_54 v4
def f_X12_ruled (G : GG) (v0 : Nat) (v1 : Int32) (h : AH) : Option (Int32 × AH) :=
ck (m_t h v0 = .inl 12) <|
cb (f_X12_isTrain G v0 h) fun r4 h2 =>
if r4 = 0 then (some ((-1 : Int32), h2)) else
cb (f_X12_in G v1.toInt64 (0 : Int64) (2 : Int64) h2) fun r8 h6 =>
if r8 = 0 then (some ((-1 : Int32), h6)) else
ck (m_t h6 v0 = .inl 12) <|
cb (f_X12_laysCourses G v0 h6) fun r13 h11 =>
lq2 (F_X12_ruled_33 G v0 v1 r13 (fun (v3_61 : Int32) (h_61 : AH) => (if v1 = 0 then (some (r13, h_61)) else
if r13 = 0 then (some ((-2 : Int32), h_61)) else
if v1 = (1 : Int32) then (some (v3_61 / (4 : Int32), h_61)) else
some (v3_61 - v3_61 / (4 : Int32) * (4 : Int32), h_61)))) bN (-2 : Int32) (23 : Int32) h11
set_option maxHeartbeats 4000000 in
set_option maxRecDepth 100000 in
theorem el_X12_ruled_33 {G : GG} {p : Program} {l : Launch} {e : Env} {s : State} {m : MethodId} {args : Array Value} {below : List Frame} {meth : Method} {c : Code} {y : Int32 × AH} (C : Cx G cX12_ruled RX12 p s m args meth c) (hm : c.maxLocals = 5) (hr : meth.sig.returnType = (some .int)) (hin : meth.name = yX12_ruled.name) {v0 : Nat} {v1 : Int32} {v2 : Int32} {K_61 : Int32 → AH → Option (Int32 × AH)} (hK_61 : ∀ (w3 : Int32) (h : AH), K_61 w3 h = some y → EE G p l e ({ frames := 3, cells := 0, slots := 0, locals := 71 } : Room) s m args below meth c (some (.int y.1), y.2) 0 0 61 [(1, .int v1), (2, .int v2), (3, .int w3)] [] h 0 0) :
    ∀ (n : Nat) (v3 : Int32) (v4 : Int32) (h : AH), lq2 (F_X12_ruled_33 G v0 v1 v2 K_61) n v3 v4 h = some y → EE G p l e ({ frames := 3, cells := 0, slots := 0, locals := 71 } : Room) s m args below meth c (some (.int y.1), y.2) 0 0 33 [(0, .ref v0), (1, .int v1), (2, .int v2), (3, .int v3), (4, .int v4)] [] h 0 0 := by
  intro n
  induction n with
  | zero => intro v3 v4 h hf; exact (no_e hf).elim
  | succ n ih_33 =>
    intro v3 v4 h hf
    have hf : F_X12_ruled_33 G v0 v1 v2 K_61 (lq2 (F_X12_ruled_33 G v0 v1 v2 K_61) n) v3 v4 h = some y := hf
    generalize lq2 (F_X12_ruled_33 G v0 v1 v2 K_61) n = self_33 at hf ih_33
    unfold F_X12_ruled_33 at hf
    refine e_iload (pc := 33) C dX12_ruled_33 4 rfl ?_
    rcases it_e hf with ⟨c14, hf⟩ | ⟨c14, hf⟩
    · refine e_if_lt (pc := 35) (tgt := 61) C dX12_ruled_35 (by decide) (fun _ => ?_) (fun q => absurd c14 q)
      refine e_lv (lv2 := [(1, .int v1), (2, .int v2), (3, .int v3)]) [1, 2, 3] rfl ?_
      exact hK_61 v3 h hf
    · refine e_if_lt (pc := 35) (tgt := 61) C dX12_ruled_35 (by decide) (fun q => absurd q c14) (fun _ => ?_)
      refine e_aload_n (pc := 38) C dX12_ruled_38 0 rfl rfl ?_
      obtain ⟨t15, hf⟩ := ck_e hf
      refine e_getr (pc := 39) 12 80 C dX12_ruled_39 (by decide) (by decide) g1481 rfl t15 ?_
      obtain ⟨b16, eb16, hf⟩ := ob_e hf
      refine e_rf eb16 ?_
      refine e_iload (pc := 42) C dX12_ruled_42 4 rfl ?_
      obtain ⟨q17, hf⟩ := ck_e hf
      obtain ⟨n18, tn18, in18⟩ := ix_e q17
      refine e_zald (pc := 44) C dX12_ruled_44 tn18 in18 ?_
      obtain ⟨j_54, ej_54, hf⟩ := nn_e hf
      have W_54 : ∀ (s0_54 : Int32), j_54 s0_54 = some y → EE G p l e ({ frames := 3, cells := 0, slots := 0, locals := 71 } : Room) s m args below meth c (some (.int y.1), y.2) 0 0 54 [(0, .ref v0), (1, .int v1), (2, .int v2), (4, .int v4)] [.int s0_54] h 0 0 := by
        intro s0_54 hf
        rw [ej_54] at hf
        refine e_istore_n (pc := 54) (lv2 := [(3, .int s0_54), (0, .ref v0), (1, .int v1), (2, .int v2), (4, .int v4)]) C hm dX12_ruled_54 rfl (by decide) rfl ?_
        obtain ⟨x19, ex19, hf⟩ := nn_e hf
        refine e_iinc (pc := 55) (v := x19) (lv2 := [(4, .int x19), (3, .int s0_54), (0, .ref v0), (1, .int v1), (2, .int v2)]) C hm dX12_ruled_55 4 rfl (by rw [ex19]; rfl) (by decide) rfl ?_
        refine e_goto (pc := 58) (tgt := 33) C dX12_ruled_58 (by decide) ?_
        refine e_lv (lv2 := [(0, .ref v0), (1, .int v1), (2, .int v2), (3, .int s0_54), (4, .int x19)]) [2, 3, 4, 1, 0] rfl ?_
        exact ih_33 s0_54 x19 h hf
      rcases it_e hf with ⟨c20, hf⟩ | ⟨c20, hf⟩
      · refine e_if_eq (pc := 45) (tgt := 53) C dX12_ruled_45 (by decide) (fun _ => ?_) (fun q => absurd c20 q)
        refine e_iload_n (pc := 53) C dX12_ruled_53 3 rfl rfl ?_
        refine e_lv (lv2 := [(0, .ref v0), (1, .int v1), (2, .int v2), (4, .int v4)]) [0, 1, 2, 4] rfl ?_
        exact W_54 v3 hf
      · refine e_if_eq (pc := 45) (tgt := 53) C dX12_ruled_45 (by decide) (fun q => absurd q c20) (fun _ => ?_)
        refine e_iload (pc := 48) C dX12_ruled_48 4 rfl ?_
        refine e_goto (pc := 50) (tgt := 54) C dX12_ruled_50 (by decide) ?_
        refine e_lv (lv2 := [(0, .ref v0), (1, .int v1), (2, .int v2), (4, .int v4)]) [0, 1, 2, 4] rfl ?_
        exact W_54 v4 hf
set_option maxHeartbeats 4000000 in
set_option maxRecDepth 100000 in
theorem ct_X12_ruled {G : GG} {l : Launch} {v0 : Nat} {v1 : Int32} {h : AH} {y : Int32 × AH} (hf : f_X12_ruled G v0 v1 h = some y) : Ct G l yX12_ruled cX12_ruled 5 (some .int) 3 71 0 0 [.ref v0, .int v1] h (some (.int y.1), y.2) := by
  refine ct_of (by decide) (Nat.le_of_ble_eq_true rfl) ?_
  intro p e s m args below meth c C hm hr hin
  have C : Cx G cX12_ruled RX12 p s m args meth c := C
  refine e_lv (lv2 := [(0, .ref v0), (1, .int v1)]) [0, 1] rfl ?_
  unfold f_X12_ruled at hf
  refine e_aload_n (pc := 0) C dX12_ruled_0 0 rfl rfl ?_
  obtain ⟨t1, hf⟩ := ck_e hf
  obtain ⟨r4, h2, y3, hf⟩ := cb_e hf
  refine e_callVi (pc := 1) (st := []) 12 C (ct_X12_isTrain y3) dX12_ruled_1 (by decide) t1 g1907 g1909 g96 g157 g1910 hd_X12_isTrain rfl ⟨Nat.le_of_ble_eq_true rfl, Nat.le_of_ble_eq_true rfl⟩ ⟨Nat.le_of_ble_eq_true rfl, Nat.le_of_ble_eq_true rfl⟩ rfl (Nat.le_of_ble_eq_true rfl) ?_
  rcases it_e hf with ⟨c5, hf⟩ | ⟨c5, hf⟩
  · refine e_if_eq (pc := 4) (tgt := 19) C dX12_ruled_4 (by decide) (fun _ => ?_) (fun q => absurd c5 q)
    refine e_iconst (v := (-1 : Int32)) (pc := 19) C dX12_ruled_19 (by decide) ?_
    obtain rfl := so_e hf
    exact e_iret (pc := 20) C hr dX12_ruled_20 (Nat.le_of_ble_eq_true rfl) (Nat.le_of_ble_eq_true rfl)
  · refine e_if_eq (pc := 4) (tgt := 19) C dX12_ruled_4 (by decide) (fun q => absurd q c5) (fun _ => ?_)
    refine e_iload_n (pc := 7) C dX12_ruled_7 1 rfl rfl ?_
    refine e_i2l (pc := 8) C dX12_ruled_8 ?_
    refine e_lconst (v := (0 : Int64)) (pc := 9) C dX12_ruled_9 (by decide) ?_
    refine e_ldc2 (pc := 10) C dX12_ruled_10 g2023 ?_
    obtain ⟨r8, h6, y7, hf⟩ := cb_e hf
    refine e_callSi (pc := 13) (st := []) C (ct_X12_in y7) dX12_ruled_13 g1737 g1738 g157 g1739 hd_X12_in rfl ⟨Nat.le_of_ble_eq_true rfl, Nat.le_of_ble_eq_true rfl⟩ ⟨Nat.le_of_ble_eq_true rfl, Nat.le_of_ble_eq_true rfl⟩ rfl (Nat.le_of_ble_eq_true rfl) ?_
    rcases it_e hf with ⟨c9, hf⟩ | ⟨c9, hf⟩
    · refine e_if_ne (pc := 16) (tgt := 21) C dX12_ruled_16 (by decide) (fun q => absurd c9 q) (fun _ => ?_)
      refine e_iconst (v := (-1 : Int32)) (pc := 19) C dX12_ruled_19 (by decide) ?_
      obtain rfl := so_e hf
      exact e_iret (pc := 20) C hr dX12_ruled_20 (Nat.le_of_ble_eq_true rfl) (Nat.le_of_ble_eq_true rfl)
    · refine e_if_ne (pc := 16) (tgt := 21) C dX12_ruled_16 (by decide) (fun _ => ?_) (fun q => absurd q c9)
      refine e_aload_n (pc := 21) C dX12_ruled_21 0 rfl rfl ?_
      obtain ⟨t10, hf⟩ := ck_e hf
      obtain ⟨r13, h11, y12, hf⟩ := cb_e hf
      refine e_callVi (pc := 22) (st := []) 12 C (ct_X12_laysCourses y12) dX12_ruled_22 (by decide) t10 g2182 g2184 g138 g157 g2185 hd_X12_laysCourses rfl ⟨Nat.le_of_ble_eq_true rfl, Nat.le_of_ble_eq_true rfl⟩ ⟨Nat.le_of_ble_eq_true rfl, Nat.le_of_ble_eq_true rfl⟩ rfl (Nat.le_of_ble_eq_true rfl) ?_
      refine e_istore_n (pc := 25) (lv2 := [(2, .int r13), (0, .ref v0), (1, .int v1)]) C hm dX12_ruled_25 rfl (by decide) rfl ?_
      refine e_bipush (v := (-2 : Int32)) (pc := 26) C dX12_ruled_26 (by decide) ?_
      refine e_istore_n (pc := 28) (lv2 := [(3, .int (-2 : Int32)), (2, .int r13), (0, .ref v0), (1, .int v1)]) C hm dX12_ruled_28 rfl (by decide) rfl ?_
      refine e_bipush (v := (23 : Int32)) (pc := 29) C dX12_ruled_29 (by decide) ?_
      refine e_istore (pc := 31) (lv2 := [(4, .int (23 : Int32)), (3, .int (-2 : Int32)), (2, .int r13), (0, .ref v0), (1, .int v1)]) C hm dX12_ruled_31 (by decide) rfl ?_
      refine e_lv (lv2 := [(0, .ref v0), (1, .int v1), (2, .int r13), (3, .int (-2 : Int32)), (4, .int (23 : Int32))]) [3, 4, 2, 1, 0] rfl ?_
      refine el_X12_ruled_33 C hm hr hin (fun v3_61 h_61 hf => ?_) bN (-2 : Int32) (23 : Int32) h11 hf
      refine e_iload_n (pc := 61) C dX12_ruled_61 0 rfl rfl ?_
      rcases it_e hf with ⟨c21, hf⟩ | ⟨c21, hf⟩
      · refine e_if_ne (pc := 62) (tgt := 67) C dX12_ruled_62 (by decide) (fun q => absurd c21 q) (fun _ => ?_)
        refine e_iload_n (pc := 65) C dX12_ruled_65 1 rfl rfl ?_
        obtain rfl := so_e hf
        exact e_iret (pc := 66) C hr dX12_ruled_66 (Nat.le_of_ble_eq_true rfl) (Nat.le_of_ble_eq_true rfl)
      · refine e_if_ne (pc := 62) (tgt := 67) C dX12_ruled_62 (by decide) (fun _ => ?_) (fun q => absurd q c21)
        refine e_iload_n (pc := 67) C dX12_ruled_67 1 rfl rfl ?_
        rcases it_e hf with ⟨c22, hf⟩ | ⟨c22, hf⟩
        · refine e_if_ne (pc := 68) (tgt := 76) C dX12_ruled_68 (by decide) (fun q => absurd c22 q) (fun _ => ?_)
          refine e_bipush (v := (-2 : Int32)) (pc := 71) C dX12_ruled_71 (by decide) ?_
          refine e_goto (pc := 73) (tgt := 90) C dX12_ruled_73 (by decide) ?_
          obtain rfl := so_e hf
          exact e_iret (pc := 90) C hr dX12_ruled_90 (Nat.le_of_ble_eq_true rfl) (Nat.le_of_ble_eq_true rfl)
        · refine e_if_ne (pc := 68) (tgt := 76) C dX12_ruled_68 (by decide) (fun _ => ?_) (fun q => absurd q c22)
          refine e_iload_n (pc := 76) C dX12_ruled_76 0 rfl rfl ?_
          refine e_iconst (v := (1 : Int32)) (pc := 77) C dX12_ruled_77 (by decide) ?_
          rcases it_e hf with ⟨c23, hf⟩ | ⟨c23, hf⟩
          · refine e_icmp_ne (pc := 78) (tgt := 87) C dX12_ruled_78 (by decide) (fun q => absurd c23 q) (fun _ => ?_)
            refine e_iload_n (pc := 81) C dX12_ruled_81 2 rfl rfl ?_
            refine e_iconst (v := (4 : Int32)) (pc := 82) C dX12_ruled_82 (by decide) ?_
            refine e_idiv (pc := 83) C dX12_ruled_83 (by decide) ?_
            refine e_goto (pc := 84) (tgt := 90) C dX12_ruled_84 (by decide) ?_
            obtain rfl := so_e hf
            exact e_iret (pc := 90) C hr dX12_ruled_90 (Nat.le_of_ble_eq_true rfl) (Nat.le_of_ble_eq_true rfl)
          · refine e_icmp_ne (pc := 78) (tgt := 87) C dX12_ruled_78 (by decide) (fun _ => ?_) (fun q => absurd q c23)
            refine e_iload_n (pc := 87) C dX12_ruled_87 2 rfl rfl ?_
            refine e_iconst (v := (4 : Int32)) (pc := 88) C dX12_ruled_88 (by decide) ?_
            refine e_irem (pc := 89) C dX12_ruled_89 (by decide) ?_
            obtain rfl := so_e hf
            exact e_iret (pc := 90) C hr dX12_ruled_90 (Nat.le_of_ble_eq_true rfl) (Nat.le_of_ble_eq_true rfl)
theorem dX12_mostAlike_0 : decode cX12_mostAlike 0 = .ok (.iconst 0, 1) := by decide +kernel
theorem dX12_mostAlike_1 : decode cX12_mostAlike 1 = .ok (.istore_n 2, 1) := by decide +kernel
theorem dX12_mostAlike_2 : decode cX12_mostAlike 2 = .ok (.iconst 0, 1) := by decide +kernel
theorem dX12_mostAlike_3 : decode cX12_mostAlike 3 = .ok (.istore_n 3, 1) := by decide +kernel
theorem dX12_mostAlike_4 : decode cX12_mostAlike 4 = .ok (.iload_n 3, 1) := by decide +kernel
theorem dX12_mostAlike_5 : decode cX12_mostAlike 5 = .ok (.bipush 60, 2) := by decide +kernel
theorem dX12_mostAlike_7 : decode cX12_mostAlike 7 = .ok (.if_icmp .gt 77, 3) := by decide +kernel
theorem dX12_mostAlike_10 : decode cX12_mostAlike 10 = .ok (.iconst 0, 1) := by decide +kernel
theorem dX12_mostAlike_11 : decode cX12_mostAlike 11 = .ok (.istore 4, 2) := by decide +kernel
theorem dX12_mostAlike_13 : decode cX12_mostAlike 13 = .ok (.iconst 0, 1) := by decide +kernel
theorem dX12_mostAlike_14 : decode cX12_mostAlike 14 = .ok (.istore 5, 2) := by decide +kernel
theorem dX12_mostAlike_16 : decode cX12_mostAlike 16 = .ok (.iload 5, 2) := by decide +kernel
theorem dX12_mostAlike_18 : decode cX12_mostAlike 18 = .ok (.bipush 24, 2) := by decide +kernel
theorem dX12_mostAlike_20 : decode cX12_mostAlike 20 = .ok (.if_icmp .ge 45, 3) := by decide +kernel
theorem dX12_mostAlike_23 : decode cX12_mostAlike 23 = .ok (.iload 4, 2) := by decide +kernel
theorem dX12_mostAlike_25 : decode cX12_mostAlike 25 = .ok (.aload_n 0, 1) := by decide +kernel
theorem dX12_mostAlike_26 : decode cX12_mostAlike 26 = .ok (.getfield 193, 3) := by decide +kernel
theorem dX12_mostAlike_29 : decode cX12_mostAlike 29 = .ok (.iload 5, 2) := by decide +kernel
theorem dX12_mostAlike_31 : decode cX12_mostAlike 31 = .ok (.baload, 1) := by decide +kernel
theorem dX12_mostAlike_32 : decode cX12_mostAlike 32 = .ok (.ifCond .eq 23, 3) := by decide +kernel
theorem dX12_mostAlike_35 : decode cX12_mostAlike 35 = .ok (.aload_n 0, 1) := by decide +kernel
theorem dX12_mostAlike_36 : decode cX12_mostAlike 36 = .ok (.getfield 190, 3) := by decide +kernel
theorem dX12_mostAlike_39 : decode cX12_mostAlike 39 = .ok (.bipush 61, 2) := by decide +kernel
theorem dX12_mostAlike_41 : decode cX12_mostAlike 41 = .ok (.iload 5, 2) := by decide +kernel
theorem dX12_mostAlike_43 : decode cX12_mostAlike 43 = .ok (.imul, 1) := by decide +kernel
theorem dX12_mostAlike_44 : decode cX12_mostAlike 44 = .ok (.iload_n 1, 1) := by decide +kernel
theorem dX12_mostAlike_45 : decode cX12_mostAlike 45 = .ok (.iadd, 1) := by decide +kernel
theorem dX12_mostAlike_46 : decode cX12_mostAlike 46 = .ok (.iaload, 1) := by decide +kernel
theorem dX12_mostAlike_47 : decode cX12_mostAlike 47 = .ok (.iload_n 3, 1) := by decide +kernel
theorem dX12_mostAlike_48 : decode cX12_mostAlike 48 = .ok (.if_icmp .ne 7, 3) := by decide +kernel
theorem dX12_mostAlike_51 : decode cX12_mostAlike 51 = .ok (.iconst 1, 1) := by decide +kernel
theorem dX12_mostAlike_52 : decode cX12_mostAlike 52 = .ok (.goto 4, 3) := by decide +kernel
theorem dX12_mostAlike_55 : decode cX12_mostAlike 55 = .ok (.iconst 0, 1) := by decide +kernel
theorem dX12_mostAlike_56 : decode cX12_mostAlike 56 = .ok (.iadd, 1) := by decide +kernel
theorem dX12_mostAlike_57 : decode cX12_mostAlike 57 = .ok (.istore 4, 2) := by decide +kernel
theorem dX12_mostAlike_59 : decode cX12_mostAlike 59 = .ok (.iinc 5 1, 3) := by decide +kernel
theorem dX12_mostAlike_62 : decode cX12_mostAlike 62 = .ok (.goto (-46), 3) := by decide +kernel
theorem dX12_mostAlike_65 : decode cX12_mostAlike 65 = .ok (.iload 4, 2) := by decide +kernel
theorem dX12_mostAlike_67 : decode cX12_mostAlike 67 = .ok (.iload_n 2, 1) := by decide +kernel
theorem dX12_mostAlike_68 : decode cX12_mostAlike 68 = .ok (.if_icmp .le 8, 3) := by decide +kernel
theorem dX12_mostAlike_71 : decode cX12_mostAlike 71 = .ok (.iload 4, 2) := by decide +kernel
theorem dX12_mostAlike_73 : decode cX12_mostAlike 73 = .ok (.goto 4, 3) := by decide +kernel
theorem dX12_mostAlike_76 : decode cX12_mostAlike 76 = .ok (.iload_n 2, 1) := by decide +kernel
theorem dX12_mostAlike_77 : decode cX12_mostAlike 77 = .ok (.istore_n 2, 1) := by decide +kernel
theorem dX12_mostAlike_78 : decode cX12_mostAlike 78 = .ok (.iinc 3 1, 3) := by decide +kernel
theorem dX12_mostAlike_81 : decode cX12_mostAlike 81 = .ok (.goto (-77), 3) := by decide +kernel
theorem dX12_mostAlike_84 : decode cX12_mostAlike 84 = .ok (.iload_n 2, 1) := by decide +kernel
theorem dX12_mostAlike_85 : decode cX12_mostAlike 85 = .ok (.ireturn, 1) := by decide +kernel
def F_X12_mostAlike_16 (G : GG) (v0 : Nat) (v1 : Int32) (v2 : Int32) (v3 : Int32) (K_65 : Int32 → AH → Option (Int32 × AH)) (self_16 : Int32 → Int32 → AH → Option (Int32 × AH)) (v4 : Int32) (v5 : Int32) (h : AH) : Option (Int32 × AH) :=
if (24 : Int32) ≤ v5 then (K_65 v4 h) else
ck (m_t h v0 = .inl 12) <|
ob (m_r h v0 80) fun b4 =>
ck (ixb h b4 .boolean v5 = true) <|
nn (fun (s0_56 : Int32) => (nn (v4 + s0_56) fun x7 =>
nn (v5 + (1 : Int32)) fun x8 =>
self_16 x7 x8 h)) fun j_56 =>
nn (fun (uu_55 : Unit) => (j_56 (0 : Int32))) fun j_55 =>
if (m_i h b4 v5.toNatClampNeg) = 0 then (j_55 ()) else
ob (m_r h v0 79) fun b10 =>
ck (ixb h b10 .int (((61 : Int32) * v5) + v1) = true) <|
if (m_i h b10 (((61 : Int32) * v5) + v1).toNatClampNeg) = v3 then (j_56 (1 : Int32)) else
j_55 ()
def F_X12_mostAlike_4 (G : GG) (v0 : Nat) (v1 : Int32) (self_4 : Int32 → Int32 → AH → Option (Int32 × AH)) (v2 : Int32) (v3 : Int32) (h : AH) : Option (Int32 × AH) :=
if (60 : Int32) < v3 then (some (v2, h)) else
lq2 (F_X12_mostAlike_16 G v0 v1 v2 v3 (fun (v4_65 : Int32) (h_65 : AH) => (nn (fun (s0_77 : Int32) => (nn (v3 + (1 : Int32)) fun x14 =>
self_4 s0_77 x14 h_65)) fun j_77 =>
if v4_65 ≤ v2 then (j_77 v2) else
j_77 v4_65))) bN (0 : Int32) (0 : Int32) h
def f_X12_mostAlike (G : GG) (v0 : Nat) (v1 : Int32) (h : AH) : Option (Int32 × AH) :=
lq2 (F_X12_mostAlike_4 G v0 v1 ) bN (0 : Int32) (0 : Int32) h
set_option maxHeartbeats 4000000 in
set_option maxRecDepth 100000 in
theorem el_X12_mostAlike_16 {G : GG} {p : Program} {l : Launch} {e : Env} {s : State} {m : MethodId} {args : Array Value} {below : List Frame} {meth : Method} {c : Code} {y : Int32 × AH} (C : Cx G cX12_mostAlike RX12 p s m args meth c) (hm : c.maxLocals = 6) (hr : meth.sig.returnType = (some .int)) (hin : meth.name = yX12_mostAlike.name) {v0 : Nat} {v1 : Int32} {v2 : Int32} {v3 : Int32} {K_65 : Int32 → AH → Option (Int32 × AH)} (hK_65 : ∀ (w4 : Int32) (h : AH), K_65 w4 h = some y → EE G p l e ({ frames := 0, cells := 0, slots := 0, locals := 0 } : Room) s m args below meth c (some (.int y.1), y.2) 0 0 65 [(0, .ref v0), (1, .int v1), (2, .int v2), (3, .int v3), (4, .int w4)] [] h 0 0) :
    ∀ (n : Nat) (v4 : Int32) (v5 : Int32) (h : AH), lq2 (F_X12_mostAlike_16 G v0 v1 v2 v3 K_65) n v4 v5 h = some y → EE G p l e ({ frames := 0, cells := 0, slots := 0, locals := 0 } : Room) s m args below meth c (some (.int y.1), y.2) 0 0 16 [(0, .ref v0), (1, .int v1), (2, .int v2), (3, .int v3), (4, .int v4), (5, .int v5)] [] h 0 0 := by
  intro n
  induction n with
  | zero => intro v4 v5 h hf; exact (no_e hf).elim
  | succ n ih_16 =>
    intro v4 v5 h hf
    have hf : F_X12_mostAlike_16 G v0 v1 v2 v3 K_65 (lq2 (F_X12_mostAlike_16 G v0 v1 v2 v3 K_65) n) v4 v5 h = some y := hf
    generalize lq2 (F_X12_mostAlike_16 G v0 v1 v2 v3 K_65) n = self_16 at hf ih_16
    unfold F_X12_mostAlike_16 at hf
    refine e_iload (pc := 16) C dX12_mostAlike_16 5 rfl ?_
    refine e_bipush (v := (24 : Int32)) (pc := 18) C dX12_mostAlike_18 (by decide) ?_
    rcases it_e hf with ⟨c2, hf⟩ | ⟨c2, hf⟩
    · refine e_icmp_ge (pc := 20) (tgt := 65) C dX12_mostAlike_20 (by decide) (fun _ => ?_) (fun q => absurd c2 q)
      refine e_lv (lv2 := [(0, .ref v0), (1, .int v1), (2, .int v2), (3, .int v3), (4, .int v4)]) [0, 1, 2, 3, 4] rfl ?_
      exact hK_65 v4 h hf
    · refine e_icmp_ge (pc := 20) (tgt := 65) C dX12_mostAlike_20 (by decide) (fun q => absurd q c2) (fun _ => ?_)
      refine e_iload (pc := 23) C dX12_mostAlike_23 4 rfl ?_
      refine e_aload_n (pc := 25) C dX12_mostAlike_25 0 rfl rfl ?_
      obtain ⟨t3, hf⟩ := ck_e hf
      refine e_getr (pc := 26) 12 80 C dX12_mostAlike_26 (by decide) (by decide) g1481 rfl t3 ?_
      obtain ⟨b4, eb4, hf⟩ := ob_e hf
      refine e_rf eb4 ?_
      refine e_iload (pc := 29) C dX12_mostAlike_29 5 rfl ?_
      obtain ⟨q5, hf⟩ := ck_e hf
      obtain ⟨n6, tn6, in6⟩ := ix_e q5
      refine e_zald (pc := 31) C dX12_mostAlike_31 tn6 in6 ?_
      obtain ⟨j_56, ej_56, hf⟩ := nn_e hf
      have W_56 : ∀ (s0_56 : Int32), j_56 s0_56 = some y → EE G p l e ({ frames := 0, cells := 0, slots := 0, locals := 0 } : Room) s m args below meth c (some (.int y.1), y.2) 0 0 56 [(0, .ref v0), (1, .int v1), (2, .int v2), (3, .int v3), (5, .int v5)] [.int s0_56, .int v4] h 0 0 := by
        intro s0_56 hf
        rw [ej_56] at hf
        refine e_iadd (pc := 56) C dX12_mostAlike_56 ?_
        obtain ⟨x7, ex7, hf⟩ := nn_e hf
        refine e_topi ex7 ?_
        refine e_istore (pc := 57) (lv2 := [(4, .int x7), (0, .ref v0), (1, .int v1), (2, .int v2), (3, .int v3), (5, .int v5)]) C hm dX12_mostAlike_57 (by decide) rfl ?_
        obtain ⟨x8, ex8, hf⟩ := nn_e hf
        refine e_iinc (pc := 59) (v := x8) (lv2 := [(5, .int x8), (4, .int x7), (0, .ref v0), (1, .int v1), (2, .int v2), (3, .int v3)]) C hm dX12_mostAlike_59 5 rfl (by rw [ex8]; rfl) (by decide) rfl ?_
        refine e_goto (pc := 62) (tgt := 16) C dX12_mostAlike_62 (by decide) ?_
        refine e_lv (lv2 := [(0, .ref v0), (1, .int v1), (2, .int v2), (3, .int v3), (4, .int x7), (5, .int x8)]) [2, 3, 4, 5, 1, 0] rfl ?_
        exact ih_16 x7 x8 h hf
      obtain ⟨j_55, ej_55, hf⟩ := nn_e hf
      have W_55 : ∀ (uu_55 : Unit), j_55 uu_55 = some y → EE G p l e ({ frames := 0, cells := 0, slots := 0, locals := 0 } : Room) s m args below meth c (some (.int y.1), y.2) 0 0 55 [(0, .ref v0), (1, .int v1), (2, .int v2), (3, .int v3), (5, .int v5)] [.int v4] h 0 0 := by
        intro uu_55 hf
        rw [ej_55] at hf
        refine e_iconst (v := (0 : Int32)) (pc := 55) C dX12_mostAlike_55 (by decide) ?_
        exact W_56 (0 : Int32) hf
      rcases it_e hf with ⟨c9, hf⟩ | ⟨c9, hf⟩
      · refine e_if_eq (pc := 32) (tgt := 55) C dX12_mostAlike_32 (by decide) (fun _ => ?_) (fun q => absurd c9 q)
        refine e_lv (lv2 := [(0, .ref v0), (1, .int v1), (2, .int v2), (3, .int v3), (5, .int v5)]) [0, 1, 2, 3, 5] rfl ?_
        exact W_55 () hf
      · refine e_if_eq (pc := 32) (tgt := 55) C dX12_mostAlike_32 (by decide) (fun q => absurd q c9) (fun _ => ?_)
        refine e_aload_n (pc := 35) C dX12_mostAlike_35 0 rfl rfl ?_
        refine e_getr (pc := 36) 12 79 C dX12_mostAlike_36 (by decide) (by decide) g1480 rfl t3 ?_
        obtain ⟨b10, eb10, hf⟩ := ob_e hf
        refine e_rf eb10 ?_
        refine e_bipush (v := (61 : Int32)) (pc := 39) C dX12_mostAlike_39 (by decide) ?_
        refine e_iload (pc := 41) C dX12_mostAlike_41 5 rfl ?_
        refine e_imul (pc := 43) C dX12_mostAlike_43 ?_
        refine e_iload_n (pc := 44) C dX12_mostAlike_44 1 rfl rfl ?_
        refine e_iadd (pc := 45) C dX12_mostAlike_45 ?_
        obtain ⟨q11, hf⟩ := ck_e hf
        obtain ⟨n12, tn12, in12⟩ := ix_e q11
        refine e_iald (pc := 46) C dX12_mostAlike_46 tn12 in12 ?_
        refine e_iload_n (pc := 47) C dX12_mostAlike_47 3 rfl rfl ?_
        rcases it_e hf with ⟨c13, hf⟩ | ⟨c13, hf⟩
        · refine e_icmp_ne (pc := 48) (tgt := 55) C dX12_mostAlike_48 (by decide) (fun q => absurd c13 q) (fun _ => ?_)
          refine e_iconst (v := (1 : Int32)) (pc := 51) C dX12_mostAlike_51 (by decide) ?_
          refine e_goto (pc := 52) (tgt := 56) C dX12_mostAlike_52 (by decide) ?_
          refine e_lv (lv2 := [(0, .ref v0), (1, .int v1), (2, .int v2), (3, .int v3), (5, .int v5)]) [0, 1, 2, 3, 5] rfl ?_
          exact W_56 (1 : Int32) hf
        · refine e_icmp_ne (pc := 48) (tgt := 55) C dX12_mostAlike_48 (by decide) (fun _ => ?_) (fun q => absurd q c13)
          refine e_lv (lv2 := [(0, .ref v0), (1, .int v1), (2, .int v2), (3, .int v3), (5, .int v5)]) [0, 1, 2, 3, 5] rfl ?_
          exact W_55 () hf
set_option maxHeartbeats 4000000 in
set_option maxRecDepth 100000 in
theorem el_X12_mostAlike_4 {G : GG} {p : Program} {l : Launch} {e : Env} {s : State} {m : MethodId} {args : Array Value} {below : List Frame} {meth : Method} {c : Code} {y : Int32 × AH} (C : Cx G cX12_mostAlike RX12 p s m args meth c) (hm : c.maxLocals = 6) (hr : meth.sig.returnType = (some .int)) (hin : meth.name = yX12_mostAlike.name) {v0 : Nat} {v1 : Int32}  :
    ∀ (n : Nat) (v2 : Int32) (v3 : Int32) (h : AH), lq2 (F_X12_mostAlike_4 G v0 v1) n v2 v3 h = some y → EE G p l e ({ frames := 0, cells := 0, slots := 0, locals := 0 } : Room) s m args below meth c (some (.int y.1), y.2) 0 0 4 [(0, .ref v0), (1, .int v1), (2, .int v2), (3, .int v3)] [] h 0 0 := by
  intro n
  induction n with
  | zero => intro v2 v3 h hf; exact (no_e hf).elim
  | succ n ih_4 =>
    intro v2 v3 h hf
    have hf : F_X12_mostAlike_4 G v0 v1 (lq2 (F_X12_mostAlike_4 G v0 v1) n) v2 v3 h = some y := hf
    generalize lq2 (F_X12_mostAlike_4 G v0 v1) n = self_4 at hf ih_4
    unfold F_X12_mostAlike_4 at hf
    refine e_iload_n (pc := 4) C dX12_mostAlike_4 3 rfl rfl ?_
    refine e_bipush (v := (60 : Int32)) (pc := 5) C dX12_mostAlike_5 (by decide) ?_
    rcases it_e hf with ⟨c1, hf⟩ | ⟨c1, hf⟩
    · refine e_icmp_gt (pc := 7) (tgt := 84) C dX12_mostAlike_7 (by decide) (fun _ => ?_) (fun q => absurd c1 q)
      refine e_iload_n (pc := 84) C dX12_mostAlike_84 2 rfl rfl ?_
      obtain rfl := so_e hf
      exact e_iret (pc := 85) C hr dX12_mostAlike_85 (Nat.le_of_ble_eq_true rfl) (Nat.le_of_ble_eq_true rfl)
    · refine e_icmp_gt (pc := 7) (tgt := 84) C dX12_mostAlike_7 (by decide) (fun q => absurd q c1) (fun _ => ?_)
      refine e_iconst (v := (0 : Int32)) (pc := 10) C dX12_mostAlike_10 (by decide) ?_
      refine e_istore (pc := 11) (lv2 := [(4, .int (0 : Int32)), (0, .ref v0), (1, .int v1), (2, .int v2), (3, .int v3)]) C hm dX12_mostAlike_11 (by decide) rfl ?_
      refine e_iconst (v := (0 : Int32)) (pc := 13) C dX12_mostAlike_13 (by decide) ?_
      refine e_istore (pc := 14) (lv2 := [(5, .int (0 : Int32)), (4, .int (0 : Int32)), (0, .ref v0), (1, .int v1), (2, .int v2), (3, .int v3)]) C hm dX12_mostAlike_14 (by decide) rfl ?_
      refine e_lv (lv2 := [(0, .ref v0), (1, .int v1), (2, .int v2), (3, .int v3), (4, .int (0 : Int32)), (5, .int (0 : Int32))]) [2, 3, 4, 5, 1, 0] rfl ?_
      refine el_X12_mostAlike_16 C hm hr hin (fun v4_65 h_65 hf => ?_) bN (0 : Int32) (0 : Int32) h hf
      refine e_iload (pc := 65) C dX12_mostAlike_65 4 rfl ?_
      refine e_iload_n (pc := 67) C dX12_mostAlike_67 2 rfl rfl ?_
      obtain ⟨j_77, ej_77, hf⟩ := nn_e hf
      have W_77 : ∀ (s0_77 : Int32), j_77 s0_77 = some y → EE G p l e ({ frames := 0, cells := 0, slots := 0, locals := 0 } : Room) s m args below meth c (some (.int y.1), y.2) 0 0 77 [(0, .ref v0), (1, .int v1), (3, .int v3)] [.int s0_77] h_65 0 0 := by
        intro s0_77 hf
        rw [ej_77] at hf
        refine e_istore_n (pc := 77) (lv2 := [(2, .int s0_77), (0, .ref v0), (1, .int v1), (3, .int v3)]) C hm dX12_mostAlike_77 rfl (by decide) rfl ?_
        obtain ⟨x14, ex14, hf⟩ := nn_e hf
        refine e_iinc (pc := 78) (v := x14) (lv2 := [(3, .int x14), (2, .int s0_77), (0, .ref v0), (1, .int v1)]) C hm dX12_mostAlike_78 3 rfl (by rw [ex14]; rfl) (by decide) rfl ?_
        refine e_goto (pc := 81) (tgt := 4) C dX12_mostAlike_81 (by decide) ?_
        refine e_lv (lv2 := [(0, .ref v0), (1, .int v1), (2, .int s0_77), (3, .int x14)]) [2, 3, 1, 0] rfl ?_
        exact ih_4 s0_77 x14 h_65 hf
      rcases it_e hf with ⟨c15, hf⟩ | ⟨c15, hf⟩
      · refine e_icmp_le (pc := 68) (tgt := 76) C dX12_mostAlike_68 (by decide) (fun _ => ?_) (fun q => absurd c15 q)
        refine e_iload_n (pc := 76) C dX12_mostAlike_76 2 rfl rfl ?_
        refine e_lv (lv2 := [(0, .ref v0), (1, .int v1), (3, .int v3)]) [0, 1, 3] rfl ?_
        exact W_77 v2 hf
      · refine e_icmp_le (pc := 68) (tgt := 76) C dX12_mostAlike_68 (by decide) (fun q => absurd q c15) (fun _ => ?_)
        refine e_iload (pc := 71) C dX12_mostAlike_71 4 rfl ?_
        refine e_goto (pc := 73) (tgt := 77) C dX12_mostAlike_73 (by decide) ?_
        refine e_lv (lv2 := [(0, .ref v0), (1, .int v1), (3, .int v3)]) [0, 1, 3] rfl ?_
        exact W_77 v4_65 hf
set_option maxHeartbeats 4000000 in
set_option maxRecDepth 100000 in
theorem ct_X12_mostAlike {G : GG} {l : Launch} {v0 : Nat} {v1 : Int32} {h : AH} {y : Int32 × AH} (hf : f_X12_mostAlike G v0 v1 h = some y) : Ct G l yX12_mostAlike cX12_mostAlike 6 (some .int) 0 0 0 0 [.ref v0, .int v1] h (some (.int y.1), y.2) := by
  refine ct_of (by decide) (Nat.le_of_ble_eq_true rfl) ?_
  intro p e s m args below meth c C hm hr hin
  have C : Cx G cX12_mostAlike RX12 p s m args meth c := C
  refine e_lv (lv2 := [(0, .ref v0), (1, .int v1)]) [0, 1] rfl ?_
  unfold f_X12_mostAlike at hf
  refine e_iconst (v := (0 : Int32)) (pc := 0) C dX12_mostAlike_0 (by decide) ?_
  refine e_istore_n (pc := 1) (lv2 := [(2, .int (0 : Int32)), (0, .ref v0), (1, .int v1)]) C hm dX12_mostAlike_1 rfl (by decide) rfl ?_
  refine e_iconst (v := (0 : Int32)) (pc := 2) C dX12_mostAlike_2 (by decide) ?_
  refine e_istore_n (pc := 3) (lv2 := [(3, .int (0 : Int32)), (2, .int (0 : Int32)), (0, .ref v0), (1, .int v1)]) C hm dX12_mostAlike_3 rfl (by decide) rfl ?_
  refine e_lv (lv2 := [(0, .ref v0), (1, .int v1), (2, .int (0 : Int32)), (3, .int (0 : Int32))]) [2, 3, 1, 0] rfl ?_
  exact el_X12_mostAlike_4 C hm hr hin bN (0 : Int32) (0 : Int32) h hf
theorem dX12_look_0 : decode cX12_look 0 = .ok (.aload_n 0, 1) := by decide +kernel
theorem dX12_look_1 : decode cX12_look 1 = .ok (.invokevirtual 468, 3) := by decide +kernel
theorem dX12_look_4 : decode cX12_look 4 = .ok (.ifCond .eq 17, 3) := by decide +kernel
theorem dX12_look_7 : decode cX12_look 7 = .ok (.iload_n 1, 1) := by decide +kernel
theorem dX12_look_8 : decode cX12_look 8 = .ok (.i2l, 1) := by decide +kernel
theorem dX12_look_9 : decode cX12_look 9 = .ok (.ldc2_w 412, 3) := by decide +kernel
theorem dX12_look_12 : decode cX12_look 12 = .ok (.ldc2_w 615, 3) := by decide +kernel
theorem dX12_look_15 : decode cX12_look 15 = .ok (.invokestatic 206, 3) := by decide +kernel
theorem dX12_look_18 : decode cX12_look 18 = .ok (.ifCond .ne 6, 3) := by decide +kernel
theorem dX12_look_21 : decode cX12_look 21 = .ok (.bipush (-3), 2) := by decide +kernel
theorem dX12_look_23 : decode cX12_look 23 = .ok (.ireturn, 1) := by decide +kernel
theorem dX12_look_24 : decode cX12_look 24 = .ok (.aload_n 0, 1) := by decide +kernel
theorem dX12_look_25 : decode cX12_look 25 = .ok (.invokevirtual 672, 3) := by decide +kernel
theorem dX12_look_28 : decode cX12_look 28 = .ok (.ifCond .ne 6, 3) := by decide +kernel
theorem dX12_look_31 : decode cX12_look 31 = .ok (.bipush (-2), 2) := by decide +kernel
theorem dX12_look_33 : decode cX12_look 33 = .ok (.ireturn, 1) := by decide +kernel
theorem dX12_look_34 : decode cX12_look 34 = .ok (.iload_n 1, 1) := by decide +kernel
theorem dX12_look_35 : decode cX12_look 35 = .ok (.iconst (-1), 1) := by decide +kernel
theorem dX12_look_36 : decode cX12_look 36 = .ok (.if_icmp .eq 9, 3) := by decide +kernel
theorem dX12_look_39 : decode cX12_look 39 = .ok (.aload_n 0, 1) := by decide +kernel
theorem dX12_look_40 : decode cX12_look 40 = .ok (.iload_n 1, 1) := by decide +kernel
theorem dX12_look_41 : decode cX12_look 41 = .ok (.invokevirtual 675, 3) := by decide +kernel
theorem dX12_look_44 : decode cX12_look 44 = .ok (.ireturn, 1) := by decide +kernel
theorem dX12_look_45 : decode cX12_look 45 = .ok (.iconst 0, 1) := by decide +kernel
theorem dX12_look_46 : decode cX12_look 46 = .ok (.istore_n 2, 1) := by decide +kernel
theorem dX12_look_47 : decode cX12_look 47 = .ok (.aload_n 0, 1) := by decide +kernel
theorem dX12_look_48 : decode cX12_look 48 = .ok (.iconst 0, 1) := by decide +kernel
theorem dX12_look_49 : decode cX12_look 49 = .ok (.invokevirtual 675, 3) := by decide +kernel
theorem dX12_look_52 : decode cX12_look 52 = .ok (.istore_n 3, 1) := by decide +kernel
theorem dX12_look_53 : decode cX12_look 53 = .ok (.iconst 1, 1) := by decide +kernel
theorem dX12_look_54 : decode cX12_look 54 = .ok (.istore 4, 2) := by decide +kernel
theorem dX12_look_56 : decode cX12_look 56 = .ok (.iload 4, 2) := by decide +kernel
theorem dX12_look_58 : decode cX12_look 58 = .ok (.bipush 60, 2) := by decide +kernel
theorem dX12_look_60 : decode cX12_look 60 = .ok (.if_icmp .gt 43, 3) := by decide +kernel
theorem dX12_look_63 : decode cX12_look 63 = .ok (.aload_n 0, 1) := by decide +kernel
theorem dX12_look_64 : decode cX12_look 64 = .ok (.iload 4, 2) := by decide +kernel
theorem dX12_look_66 : decode cX12_look 66 = .ok (.invokevirtual 675, 3) := by decide +kernel
theorem dX12_look_69 : decode cX12_look 69 = .ok (.istore 5, 2) := by decide +kernel
theorem dX12_look_71 : decode cX12_look 71 = .ok (.iload 5, 2) := by decide +kernel
theorem dX12_look_73 : decode cX12_look 73 = .ok (.iload_n 3, 1) := by decide +kernel
theorem dX12_look_74 : decode cX12_look 74 = .ok (.if_icmp .ge 8, 3) := by decide +kernel
theorem dX12_look_77 : decode cX12_look 77 = .ok (.iload 4, 2) := by decide +kernel
theorem dX12_look_79 : decode cX12_look 79 = .ok (.goto 4, 3) := by decide +kernel
theorem dX12_look_82 : decode cX12_look 82 = .ok (.iload_n 2, 1) := by decide +kernel
theorem dX12_look_83 : decode cX12_look 83 = .ok (.istore_n 2, 1) := by decide +kernel
theorem dX12_look_84 : decode cX12_look 84 = .ok (.iload 5, 2) := by decide +kernel
theorem dX12_look_86 : decode cX12_look 86 = .ok (.iload_n 3, 1) := by decide +kernel
theorem dX12_look_87 : decode cX12_look 87 = .ok (.if_icmp .ge 8, 3) := by decide +kernel
theorem dX12_look_90 : decode cX12_look 90 = .ok (.iload 5, 2) := by decide +kernel
theorem dX12_look_92 : decode cX12_look 92 = .ok (.goto 4, 3) := by decide +kernel
theorem dX12_look_95 : decode cX12_look 95 = .ok (.iload_n 3, 1) := by decide +kernel
theorem dX12_look_96 : decode cX12_look 96 = .ok (.istore_n 3, 1) := by decide +kernel
theorem dX12_look_97 : decode cX12_look 97 = .ok (.iinc 4 1, 3) := by decide +kernel
theorem dX12_look_100 : decode cX12_look 100 = .ok (.goto (-44), 3) := by decide +kernel
theorem dX12_look_103 : decode cX12_look 103 = .ok (.iload_n 2, 1) := by decide +kernel
theorem dX12_look_104 : decode cX12_look 104 = .ok (.ireturn, 1) := by decide +kernel
def F_X12_look_56 (G : GG) (v0 : Nat) (self_56 : Int32 → Int32 → Int32 → AH → Option (Int32 × AH)) (v2 : Int32) (v3 : Int32) (v4 : Int32) (h : AH) : Option (Int32 × AH) :=
if (60 : Int32) < v4 then (some (v2, h)) else
ck (m_t h v0 = .inl 12) <|
cb (f_X12_mostAlike G v0 v4 h) fun r24 h22 =>
nn (fun (s0_83 : Int32) => (nn (fun (s0_96 : Int32) => (nn (v4 + (1 : Int32)) fun x25 =>
self_56 s0_83 s0_96 x25 h22)) fun j_96 =>
if v3 ≤ r24 then (j_96 v3) else
j_96 r24)) fun j_83 =>
if v3 ≤ r24 then (j_83 v2) else
j_83 v4
def f_X12_look (G : GG) (v0 : Nat) (v1 : Int32) (h : AH) : Option (Int32 × AH) :=
ck (m_t h v0 = .inl 12) <|
cb (f_X12_isTrain G v0 h) fun r4 h2 =>
if r4 = 0 then (some ((-3 : Int32), h2)) else
cb (f_X12_in G v1.toInt64 (-1 : Int64) (60 : Int64) h2) fun r8 h6 =>
if r8 = 0 then (some ((-3 : Int32), h6)) else
ck (m_t h6 v0 = .inl 12) <|
cb (f_X12_laysCourses G v0 h6) fun r13 h11 =>
if r13 = 0 then (some ((-2 : Int32), h11)) else
if v1 = (-1 : Int32) then (ck (m_t h11 v0 = .inl 12) <|
cb (f_X12_mostAlike G v0 (0 : Int32) h11) fun r19 h17 =>
lq3 (F_X12_look_56 G v0 ) bN (0 : Int32) r19 (1 : Int32) h17) else
ck (m_t h11 v0 = .inl 12) <|
cb (f_X12_mostAlike G v0 v1 h11) fun r31 h29 =>
some (r31, h29)
set_option maxHeartbeats 4000000 in
set_option maxRecDepth 100000 in
theorem el_X12_look_56 {G : GG} {p : Program} {l : Launch} {e : Env} {s : State} {m : MethodId} {args : Array Value} {below : List Frame} {meth : Method} {c : Code} {y : Int32 × AH} (C : Cx G cX12_look RX12 p s m args meth c) (hm : c.maxLocals = 6) (hr : meth.sig.returnType = (some .int)) (hin : meth.name = yX12_look.name) {v0 : Nat}  :
    ∀ (n : Nat) (v2 : Int32) (v3 : Int32) (v4 : Int32) (h : AH), lq3 (F_X12_look_56 G v0) n v2 v3 v4 h = some y → EE G p l e ({ frames := 3, cells := 0, slots := 0, locals := 71 } : Room) s m args below meth c (some (.int y.1), y.2) 0 0 56 [(0, .ref v0), (2, .int v2), (3, .int v3), (4, .int v4)] [] h 0 0 := by
  intro n
  induction n with
  | zero => intro v2 v3 v4 h hf; exact (no_e hf).elim
  | succ n ih_56 =>
    intro v2 v3 v4 h hf
    have hf : F_X12_look_56 G v0 (lq3 (F_X12_look_56 G v0) n) v2 v3 v4 h = some y := hf
    generalize lq3 (F_X12_look_56 G v0) n = self_56 at hf ih_56
    unfold F_X12_look_56 at hf
    refine e_iload (pc := 56) C dX12_look_56 3 rfl ?_
    refine e_bipush (v := (60 : Int32)) (pc := 58) C dX12_look_58 (by decide) ?_
    rcases it_e hf with ⟨c20, hf⟩ | ⟨c20, hf⟩
    · refine e_icmp_gt (pc := 60) (tgt := 103) C dX12_look_60 (by decide) (fun _ => ?_) (fun q => absurd c20 q)
      refine e_iload_n (pc := 103) C dX12_look_103 1 rfl rfl ?_
      obtain rfl := so_e hf
      exact e_iret (pc := 104) C hr dX12_look_104 (Nat.le_of_ble_eq_true rfl) (Nat.le_of_ble_eq_true rfl)
    · refine e_icmp_gt (pc := 60) (tgt := 103) C dX12_look_60 (by decide) (fun q => absurd q c20) (fun _ => ?_)
      refine e_aload_n (pc := 63) C dX12_look_63 0 rfl rfl ?_
      refine e_iload (pc := 64) C dX12_look_64 3 rfl ?_
      obtain ⟨t21, hf⟩ := ck_e hf
      obtain ⟨r24, h22, y23, hf⟩ := cb_e hf
      refine e_callVi (pc := 66) (st := []) 12 C (ct_X12_mostAlike y23) dX12_look_66 (by decide) t21 g2190 g2192 g139 g157 g2193 hd_X12_mostAlike rfl ⟨Nat.le_of_ble_eq_true rfl, Nat.le_of_ble_eq_true rfl⟩ ⟨Nat.le_of_ble_eq_true rfl, Nat.le_of_ble_eq_true rfl⟩ rfl (Nat.le_of_ble_eq_true rfl) ?_
      refine e_istore (pc := 69) (lv2 := [(5, .int r24), (0, .ref v0), (2, .int v2), (3, .int v3), (4, .int v4)]) C hm dX12_look_69 (by decide) rfl ?_
      refine e_iload (pc := 71) C dX12_look_71 0 rfl ?_
      refine e_iload_n (pc := 73) C dX12_look_73 3 rfl rfl ?_
      obtain ⟨j_83, ej_83, hf⟩ := nn_e hf
      have W_83 : ∀ (s0_83 : Int32), j_83 s0_83 = some y → EE G p l e ({ frames := 3, cells := 0, slots := 0, locals := 71 } : Room) s m args below meth c (some (.int y.1), y.2) 0 0 83 [(0, .ref v0), (3, .int v3), (4, .int v4), (5, .int r24)] [.int s0_83] h22 0 0 := by
        intro s0_83 hf
        rw [ej_83] at hf
        refine e_istore_n (pc := 83) (lv2 := [(2, .int s0_83), (0, .ref v0), (3, .int v3), (4, .int v4), (5, .int r24)]) C hm dX12_look_83 rfl (by decide) rfl ?_
        refine e_iload (pc := 84) C dX12_look_84 4 rfl ?_
        refine e_iload_n (pc := 86) C dX12_look_86 2 rfl rfl ?_
        obtain ⟨j_96, ej_96, hf⟩ := nn_e hf
        have W_96 : ∀ (s0_96 : Int32), j_96 s0_96 = some y → EE G p l e ({ frames := 3, cells := 0, slots := 0, locals := 71 } : Room) s m args below meth c (some (.int y.1), y.2) 0 0 96 [(0, .ref v0), (2, .int s0_83), (4, .int v4)] [.int s0_96] h22 0 0 := by
          intro s0_96 hf
          rw [ej_96] at hf
          refine e_istore_n (pc := 96) (lv2 := [(3, .int s0_96), (0, .ref v0), (2, .int s0_83), (4, .int v4)]) C hm dX12_look_96 rfl (by decide) rfl ?_
          obtain ⟨x25, ex25, hf⟩ := nn_e hf
          refine e_iinc (pc := 97) (v := x25) (lv2 := [(4, .int x25), (3, .int s0_96), (0, .ref v0), (2, .int s0_83)]) C hm dX12_look_97 3 rfl (by rw [ex25]; rfl) (by decide) rfl ?_
          refine e_goto (pc := 100) (tgt := 56) C dX12_look_100 (by decide) ?_
          refine e_lv (lv2 := [(0, .ref v0), (2, .int s0_83), (3, .int s0_96), (4, .int x25)]) [2, 3, 1, 0] rfl ?_
          exact ih_56 s0_83 s0_96 x25 h22 hf
        rcases it_e hf with ⟨c26, hf⟩ | ⟨c26, hf⟩
        · refine e_icmp_ge (pc := 87) (tgt := 95) C dX12_look_87 (by decide) (fun _ => ?_) (fun q => absurd c26 q)
          refine e_iload_n (pc := 95) C dX12_look_95 2 rfl rfl ?_
          refine e_lv (lv2 := [(0, .ref v0), (2, .int s0_83), (4, .int v4)]) [1, 0, 3] rfl ?_
          exact W_96 v3 hf
        · refine e_icmp_ge (pc := 87) (tgt := 95) C dX12_look_87 (by decide) (fun q => absurd q c26) (fun _ => ?_)
          refine e_iload (pc := 90) C dX12_look_90 4 rfl ?_
          refine e_goto (pc := 92) (tgt := 96) C dX12_look_92 (by decide) ?_
          refine e_lv (lv2 := [(0, .ref v0), (2, .int s0_83), (4, .int v4)]) [1, 0, 3] rfl ?_
          exact W_96 r24 hf
      rcases it_e hf with ⟨c27, hf⟩ | ⟨c27, hf⟩
      · refine e_icmp_ge (pc := 74) (tgt := 82) C dX12_look_74 (by decide) (fun _ => ?_) (fun q => absurd c27 q)
        refine e_iload_n (pc := 82) C dX12_look_82 2 rfl rfl ?_
        refine e_lv (lv2 := [(0, .ref v0), (3, .int v3), (4, .int v4), (5, .int r24)]) [1, 3, 4, 0] rfl ?_
        exact W_83 v2 hf
      · refine e_icmp_ge (pc := 74) (tgt := 82) C dX12_look_74 (by decide) (fun q => absurd q c27) (fun _ => ?_)
        refine e_iload (pc := 77) C dX12_look_77 4 rfl ?_
        refine e_goto (pc := 79) (tgt := 83) C dX12_look_79 (by decide) ?_
        refine e_lv (lv2 := [(0, .ref v0), (3, .int v3), (4, .int v4), (5, .int r24)]) [1, 3, 4, 0] rfl ?_
        exact W_83 v4 hf
set_option maxHeartbeats 4000000 in
set_option maxRecDepth 100000 in
theorem ct_X12_look {G : GG} {l : Launch} {v0 : Nat} {v1 : Int32} {h : AH} {y : Int32 × AH} (hf : f_X12_look G v0 v1 h = some y) : Ct G l yX12_look cX12_look 6 (some .int) 3 71 0 0 [.ref v0, .int v1] h (some (.int y.1), y.2) := by
  refine ct_of (by decide) (Nat.le_of_ble_eq_true rfl) ?_
  intro p e s m args below meth c C hm hr hin
  have C : Cx G cX12_look RX12 p s m args meth c := C
  refine e_lv (lv2 := [(0, .ref v0), (1, .int v1)]) [0, 1] rfl ?_
  unfold f_X12_look at hf
  refine e_aload_n (pc := 0) C dX12_look_0 0 rfl rfl ?_
  obtain ⟨t1, hf⟩ := ck_e hf
  obtain ⟨r4, h2, y3, hf⟩ := cb_e hf
  refine e_callVi (pc := 1) (st := []) 12 C (ct_X12_isTrain y3) dX12_look_1 (by decide) t1 g1907 g1909 g96 g157 g1910 hd_X12_isTrain rfl ⟨Nat.le_of_ble_eq_true rfl, Nat.le_of_ble_eq_true rfl⟩ ⟨Nat.le_of_ble_eq_true rfl, Nat.le_of_ble_eq_true rfl⟩ rfl (Nat.le_of_ble_eq_true rfl) ?_
  rcases it_e hf with ⟨c5, hf⟩ | ⟨c5, hf⟩
  · refine e_if_eq (pc := 4) (tgt := 21) C dX12_look_4 (by decide) (fun _ => ?_) (fun q => absurd c5 q)
    refine e_bipush (v := (-3 : Int32)) (pc := 21) C dX12_look_21 (by decide) ?_
    obtain rfl := so_e hf
    exact e_iret (pc := 23) C hr dX12_look_23 (Nat.le_of_ble_eq_true rfl) (Nat.le_of_ble_eq_true rfl)
  · refine e_if_eq (pc := 4) (tgt := 21) C dX12_look_4 (by decide) (fun q => absurd q c5) (fun _ => ?_)
    refine e_iload_n (pc := 7) C dX12_look_7 1 rfl rfl ?_
    refine e_i2l (pc := 8) C dX12_look_8 ?_
    refine e_ldc2 (pc := 9) C dX12_look_9 g1861 ?_
    refine e_ldc2 (pc := 12) C dX12_look_12 g2113 ?_
    obtain ⟨r8, h6, y7, hf⟩ := cb_e hf
    refine e_callSi (pc := 15) (st := []) C (ct_X12_in y7) dX12_look_15 g1737 g1738 g157 g1739 hd_X12_in rfl ⟨Nat.le_of_ble_eq_true rfl, Nat.le_of_ble_eq_true rfl⟩ ⟨Nat.le_of_ble_eq_true rfl, Nat.le_of_ble_eq_true rfl⟩ rfl (Nat.le_of_ble_eq_true rfl) ?_
    rcases it_e hf with ⟨c9, hf⟩ | ⟨c9, hf⟩
    · refine e_if_ne (pc := 18) (tgt := 24) C dX12_look_18 (by decide) (fun q => absurd c9 q) (fun _ => ?_)
      refine e_bipush (v := (-3 : Int32)) (pc := 21) C dX12_look_21 (by decide) ?_
      obtain rfl := so_e hf
      exact e_iret (pc := 23) C hr dX12_look_23 (Nat.le_of_ble_eq_true rfl) (Nat.le_of_ble_eq_true rfl)
    · refine e_if_ne (pc := 18) (tgt := 24) C dX12_look_18 (by decide) (fun _ => ?_) (fun q => absurd q c9)
      refine e_aload_n (pc := 24) C dX12_look_24 0 rfl rfl ?_
      obtain ⟨t10, hf⟩ := ck_e hf
      obtain ⟨r13, h11, y12, hf⟩ := cb_e hf
      refine e_callVi (pc := 25) (st := []) 12 C (ct_X12_laysCourses y12) dX12_look_25 (by decide) t10 g2182 g2184 g138 g157 g2185 hd_X12_laysCourses rfl ⟨Nat.le_of_ble_eq_true rfl, Nat.le_of_ble_eq_true rfl⟩ ⟨Nat.le_of_ble_eq_true rfl, Nat.le_of_ble_eq_true rfl⟩ rfl (Nat.le_of_ble_eq_true rfl) ?_
      rcases it_e hf with ⟨c14, hf⟩ | ⟨c14, hf⟩
      · refine e_if_ne (pc := 28) (tgt := 34) C dX12_look_28 (by decide) (fun q => absurd c14 q) (fun _ => ?_)
        refine e_bipush (v := (-2 : Int32)) (pc := 31) C dX12_look_31 (by decide) ?_
        obtain rfl := so_e hf
        exact e_iret (pc := 33) C hr dX12_look_33 (Nat.le_of_ble_eq_true rfl) (Nat.le_of_ble_eq_true rfl)
      · refine e_if_ne (pc := 28) (tgt := 34) C dX12_look_28 (by decide) (fun _ => ?_) (fun q => absurd q c14)
        refine e_iload_n (pc := 34) C dX12_look_34 1 rfl rfl ?_
        refine e_iconst (v := (-1 : Int32)) (pc := 35) C dX12_look_35 (by decide) ?_
        rcases it_e hf with ⟨c15, hf⟩ | ⟨c15, hf⟩
        · refine e_icmp_eq (pc := 36) (tgt := 45) C dX12_look_36 (by decide) (fun _ => ?_) (fun q => absurd c15 q)
          refine e_iconst (v := (0 : Int32)) (pc := 45) C dX12_look_45 (by decide) ?_
          refine e_istore_n (pc := 46) (lv2 := [(2, .int (0 : Int32)), (0, .ref v0), (1, .int v1)]) C hm dX12_look_46 rfl (by decide) rfl ?_
          refine e_aload_n (pc := 47) C dX12_look_47 1 rfl rfl ?_
          refine e_iconst (v := (0 : Int32)) (pc := 48) C dX12_look_48 (by decide) ?_
          obtain ⟨t16, hf⟩ := ck_e hf
          obtain ⟨r19, h17, y18, hf⟩ := cb_e hf
          refine e_callVi (pc := 49) (st := []) 12 C (ct_X12_mostAlike y18) dX12_look_49 (by decide) t16 g2190 g2192 g139 g157 g2193 hd_X12_mostAlike rfl ⟨Nat.le_of_ble_eq_true rfl, Nat.le_of_ble_eq_true rfl⟩ ⟨Nat.le_of_ble_eq_true rfl, Nat.le_of_ble_eq_true rfl⟩ rfl (Nat.le_of_ble_eq_true rfl) ?_
          refine e_istore_n (pc := 52) (lv2 := [(3, .int r19), (2, .int (0 : Int32)), (0, .ref v0), (1, .int v1)]) C hm dX12_look_52 rfl (by decide) rfl ?_
          refine e_iconst (v := (1 : Int32)) (pc := 53) C dX12_look_53 (by decide) ?_
          refine e_istore (pc := 54) (lv2 := [(4, .int (1 : Int32)), (3, .int r19), (2, .int (0 : Int32)), (0, .ref v0), (1, .int v1)]) C hm dX12_look_54 (by decide) rfl ?_
          refine e_lv (lv2 := [(0, .ref v0), (2, .int (0 : Int32)), (3, .int r19), (4, .int (1 : Int32))]) [3, 2, 1, 0] rfl ?_
          exact el_X12_look_56 C hm hr hin bN (0 : Int32) r19 (1 : Int32) h17 hf
        · refine e_icmp_eq (pc := 36) (tgt := 45) C dX12_look_36 (by decide) (fun q => absurd q c15) (fun _ => ?_)
          refine e_aload_n (pc := 39) C dX12_look_39 0 rfl rfl ?_
          refine e_iload_n (pc := 40) C dX12_look_40 1 rfl rfl ?_
          obtain ⟨t28, hf⟩ := ck_e hf
          obtain ⟨r31, h29, y30, hf⟩ := cb_e hf
          refine e_callVi (pc := 41) (st := []) 12 C (ct_X12_mostAlike y30) dX12_look_41 (by decide) t28 g2190 g2192 g139 g157 g2193 hd_X12_mostAlike rfl ⟨Nat.le_of_ble_eq_true rfl, Nat.le_of_ble_eq_true rfl⟩ ⟨Nat.le_of_ble_eq_true rfl, Nat.le_of_ble_eq_true rfl⟩ rfl (Nat.le_of_ble_eq_true rfl) ?_
          obtain rfl := so_e hf
          exact e_iret (pc := 44) C hr dX12_look_44 (Nat.le_of_ble_eq_true rfl) (Nat.le_of_ble_eq_true rfl)
theorem dX12_seed_0 : decode cX12_seed 0 = .ok (.iload_n 1, 1) := by decide +kernel
theorem dX12_seed_1 : decode cX12_seed 1 = .ok (.ifCond .ge 5, 3) := by decide +kernel
theorem dX12_seed_4 : decode cX12_seed 4 = .ok (.iconst (-1), 1) := by decide +kernel
theorem dX12_seed_5 : decode cX12_seed 5 = .ok (.ireturn, 1) := by decide +kernel
theorem dX12_seed_6 : decode cX12_seed 6 = .ok (.aload_n 0, 1) := by decide +kernel
theorem dX12_seed_7 : decode cX12_seed 7 = .ok (.getfield 9, 3) := by decide +kernel
theorem dX12_seed_10 : decode cX12_seed 10 = .ok (.bipush 15, 2) := by decide +kernel
theorem dX12_seed_12 : decode cX12_seed 12 = .ok (.iaload, 1) := by decide +kernel
theorem dX12_seed_13 : decode cX12_seed 13 = .ok (.istore_n 2, 1) := by decide +kernel
theorem dX12_seed_14 : decode cX12_seed 14 = .ok (.aload_n 0, 1) := by decide +kernel
theorem dX12_seed_15 : decode cX12_seed 15 = .ok (.getfield 9, 3) := by decide +kernel
theorem dX12_seed_18 : decode cX12_seed 18 = .ok (.bipush 15, 2) := by decide +kernel
theorem dX12_seed_20 : decode cX12_seed 20 = .ok (.iload_n 1, 1) := by decide +kernel
theorem dX12_seed_21 : decode cX12_seed 21 = .ok (.iastore, 1) := by decide +kernel
theorem dX12_seed_22 : decode cX12_seed 22 = .ok (.iload_n 2, 1) := by decide +kernel
theorem dX12_seed_23 : decode cX12_seed 23 = .ok (.ireturn, 1) := by decide +kernel
def f_X12_seed (G : GG) (v0 : Nat) (v1 : Int32) (h : AH) : Option (Int32 × AH) :=
if 0 ≤ v1 then (ck (m_t h v0 = .inl 12) <|
ob (m_r h v0 1) fun b3 =>
ck (ixb h b3 .int (15 : Int32) = true) <|
nn (m_i h b3 (15 : Int32).toNatClampNeg) fun x6 =>
ob (m_r h v0 1) fun b7 =>
ck (ixb h b7 .int (15 : Int32) = true) <|
nn (m_si h b7 (15 : Int32).toNatClampNeg v1) fun h10 =>
some (x6, h10)) else
some ((-1 : Int32), h)
set_option maxHeartbeats 4000000 in
set_option maxRecDepth 100000 in
theorem ct_X12_seed {G : GG} {l : Launch} {v0 : Nat} {v1 : Int32} {h : AH} {y : Int32 × AH} (hf : f_X12_seed G v0 v1 h = some y) : Ct G l yX12_seed cX12_seed 3 (some .int) 0 0 0 0 [.ref v0, .int v1] h (some (.int y.1), y.2) := by
  refine ct_of (by decide) (Nat.le_of_ble_eq_true rfl) ?_
  intro p e s m args below meth c C hm hr hin
  have C : Cx G cX12_seed RX12 p s m args meth c := C
  refine e_lv (lv2 := [(0, .ref v0), (1, .int v1)]) [0, 1] rfl ?_
  unfold f_X12_seed at hf
  refine e_iload_n (pc := 0) C dX12_seed_0 1 rfl rfl ?_
  rcases it_e hf with ⟨c1, hf⟩ | ⟨c1, hf⟩
  · refine e_if_ge (pc := 1) (tgt := 6) C dX12_seed_1 (by decide) (fun _ => ?_) (fun q => absurd c1 q)
    refine e_aload_n (pc := 6) C dX12_seed_6 0 rfl rfl ?_
    obtain ⟨t2, hf⟩ := ck_e hf
    refine e_getr (pc := 7) 12 1 C dX12_seed_7 (by decide) (by decide) g1402 rfl t2 ?_
    obtain ⟨b3, eb3, hf⟩ := ob_e hf
    refine e_rf eb3 ?_
    refine e_bipush (v := (15 : Int32)) (pc := 10) C dX12_seed_10 (by decide) ?_
    obtain ⟨q4, hf⟩ := ck_e hf
    obtain ⟨n5, tn5, in5⟩ := ix_e q4
    refine e_iald (pc := 12) C dX12_seed_12 tn5 in5 ?_
    obtain ⟨x6, ex6, hf⟩ := nn_e hf
    refine e_topi ex6 ?_
    refine e_istore_n (pc := 13) (lv2 := [(2, .int x6), (0, .ref v0), (1, .int v1)]) C hm dX12_seed_13 rfl (by decide) rfl ?_
    refine e_aload_n (pc := 14) C dX12_seed_14 1 rfl rfl ?_
    refine e_getr (pc := 15) 12 1 C dX12_seed_15 (by decide) (by decide) g1402 rfl t2 ?_
    obtain ⟨b7, eb7, hf⟩ := ob_e hf
    refine e_rf eb7 ?_
    refine e_bipush (v := (15 : Int32)) (pc := 18) C dX12_seed_18 (by decide) ?_
    refine e_iload_n (pc := 20) C dX12_seed_20 2 rfl rfl ?_
    obtain ⟨q8, hf⟩ := ck_e hf
    obtain ⟨n9, tn9, in9⟩ := ix_e q8
    refine e_iast (pc := 21) C dX12_seed_21 tn9 in9 ?_
    obtain ⟨h10, eh10, hf⟩ := nn_e hf
    refine e_hp eh10 ?_
    have uh10 : m_t h10 = m_t h := by rw [eh10]; exact rfl
    refine e_iload_n (pc := 22) C dX12_seed_22 0 rfl rfl ?_
    obtain rfl := so_e hf
    exact e_iret (pc := 23) C hr dX12_seed_23 (Nat.le_of_ble_eq_true rfl) (Nat.le_of_ble_eq_true rfl)
  · refine e_if_ge (pc := 1) (tgt := 6) C dX12_seed_1 (by decide) (fun q => absurd q c1) (fun _ => ?_)
    refine e_iconst (v := (-1 : Int32)) (pc := 4) C dX12_seed_4 (by decide) ?_
    obtain rfl := so_e hf
    exact e_iret (pc := 5) C hr dX12_seed_5 (Nat.le_of_ble_eq_true rfl) (Nat.le_of_ble_eq_true rfl)
theorem dX12_draws_0 : decode cX12_draws 0 = .ok (.aload_n 0, 1) := by decide +kernel
theorem dX12_draws_1 : decode cX12_draws 1 = .ok (.getfield 9, 3) := by decide +kernel
theorem dX12_draws_4 : decode cX12_draws 4 = .ok (.bipush 15, 2) := by decide +kernel
theorem dX12_draws_6 : decode cX12_draws 6 = .ok (.aload_n 0, 1) := by decide +kernel
theorem dX12_draws_7 : decode cX12_draws 7 = .ok (.getfield 9, 3) := by decide +kernel
theorem dX12_draws_10 : decode cX12_draws 10 = .ok (.bipush 15, 2) := by decide +kernel
theorem dX12_draws_12 : decode cX12_draws 12 = .ok (.iaload, 1) := by decide +kernel
theorem dX12_draws_13 : decode cX12_draws 13 = .ok (.i2l, 1) := by decide +kernel
theorem dX12_draws_14 : decode cX12_draws 14 = .ok (.ldc2_w 678, 3) := by decide +kernel
theorem dX12_draws_17 : decode cX12_draws 17 = .ok (.lmul, 1) := by decide +kernel
theorem dX12_draws_18 : decode cX12_draws 18 = .ok (.ldc2_w 680, 3) := by decide +kernel
theorem dX12_draws_21 : decode cX12_draws 21 = .ok (.ladd, 1) := by decide +kernel
theorem dX12_draws_22 : decode cX12_draws 22 = .ok (.ldc2_w 682, 3) := by decide +kernel
theorem dX12_draws_25 : decode cX12_draws 25 = .ok (.lrem, 1) := by decide +kernel
theorem dX12_draws_26 : decode cX12_draws 26 = .ok (.l2i, 1) := by decide +kernel
theorem dX12_draws_27 : decode cX12_draws 27 = .ok (.iastore, 1) := by decide +kernel
theorem dX12_draws_28 : decode cX12_draws 28 = .ok (.aload_n 0, 1) := by decide +kernel
theorem dX12_draws_29 : decode cX12_draws 29 = .ok (.getfield 9, 3) := by decide +kernel
theorem dX12_draws_32 : decode cX12_draws 32 = .ok (.bipush 15, 2) := by decide +kernel
theorem dX12_draws_34 : decode cX12_draws 34 = .ok (.iaload, 1) := by decide +kernel
theorem dX12_draws_35 : decode cX12_draws 35 = .ok (.ldc_w 684, 3) := by decide +kernel
theorem dX12_draws_38 : decode cX12_draws 38 = .ok (.idiv, 1) := by decide +kernel
theorem dX12_draws_39 : decode cX12_draws 39 = .ok (.iload_n 1, 1) := by decide +kernel
theorem dX12_draws_40 : decode cX12_draws 40 = .ok (.irem, 1) := by decide +kernel
theorem dX12_draws_41 : decode cX12_draws 41 = .ok (.ireturn, 1) := by decide +kernel
def f_X12_draws (G : GG) (v0 : Nat) (v1 : Int32) (h : AH) : Option (Int32 × AH) :=
ck (m_t h v0 = .inl 12) <|
ob (m_r h v0 1) fun b2 =>
ob (m_r h v0 1) fun b3 =>
ck (ixb h b3 .int (15 : Int32) = true) <|
ck (ixb h b2 .int (15 : Int32) = true) <|
nn (m_si h b2 (15 : Int32).toNatClampNeg ((((((m_i h b3 (15 : Int32).toNatClampNeg).toInt64) * (1103515245 : Int64)) + (12345 : Int64)) - ((((m_i h b3 (15 : Int32).toNatClampNeg).toInt64) * (1103515245 : Int64)) + (12345 : Int64)) / (2147483648 : Int64) * (2147483648 : Int64)).toInt32)) fun h8 =>
ob (m_r h8 v0 1) fun b9 =>
ck (ixb h8 b9 .int (15 : Int32) = true) <|
ck (¬ v1 = 0) <|
some (((m_i h8 b9 (15 : Int32).toNatClampNeg) / (65536 : Int32)) - ((m_i h8 b9 (15 : Int32).toNatClampNeg) / (65536 : Int32)) / v1 * v1, h8)
set_option maxHeartbeats 4000000 in
set_option maxRecDepth 100000 in
theorem ct_X12_draws {G : GG} {l : Launch} {v0 : Nat} {v1 : Int32} {h : AH} {y : Int32 × AH} (hf : f_X12_draws G v0 v1 h = some y) : Ct G l yX12_draws cX12_draws 2 (some .int) 0 0 0 0 [.ref v0, .int v1] h (some (.int y.1), y.2) := by
  refine ct_of (by decide) (Nat.le_of_ble_eq_true rfl) ?_
  intro p e s m args below meth c C hm hr hin
  have C : Cx G cX12_draws RX12 p s m args meth c := C
  refine e_lv (lv2 := [(0, .ref v0), (1, .int v1)]) [0, 1] rfl ?_
  unfold f_X12_draws at hf
  refine e_aload_n (pc := 0) C dX12_draws_0 0 rfl rfl ?_
  obtain ⟨t1, hf⟩ := ck_e hf
  refine e_getr (pc := 1) 12 1 C dX12_draws_1 (by decide) (by decide) g1402 rfl t1 ?_
  obtain ⟨b2, eb2, hf⟩ := ob_e hf
  refine e_rf eb2 ?_
  refine e_bipush (v := (15 : Int32)) (pc := 4) C dX12_draws_4 (by decide) ?_
  refine e_aload_n (pc := 6) C dX12_draws_6 0 rfl rfl ?_
  refine e_getr (pc := 7) 12 1 C dX12_draws_7 (by decide) (by decide) g1402 rfl t1 ?_
  obtain ⟨b3, eb3, hf⟩ := ob_e hf
  refine e_rf eb3 ?_
  refine e_bipush (v := (15 : Int32)) (pc := 10) C dX12_draws_10 (by decide) ?_
  obtain ⟨q4, hf⟩ := ck_e hf
  obtain ⟨n5, tn5, in5⟩ := ix_e q4
  refine e_iald (pc := 12) C dX12_draws_12 tn5 in5 ?_
  refine e_i2l (pc := 13) C dX12_draws_13 ?_
  refine e_ldc2 (pc := 14) C dX12_draws_14 g2208 ?_
  refine e_lmul (pc := 17) C dX12_draws_17 ?_
  refine e_ldc2 (pc := 18) C dX12_draws_18 g2209 ?_
  refine e_ladd (pc := 21) C dX12_draws_21 ?_
  refine e_ldc2 (pc := 22) C dX12_draws_22 g2210 ?_
  refine e_lrem (pc := 25) C dX12_draws_25 (by decide) ?_
  refine e_l2i (pc := 26) C dX12_draws_26 ?_
  obtain ⟨q6, hf⟩ := ck_e hf
  obtain ⟨n7, tn7, in7⟩ := ix_e q6
  refine e_iast (pc := 27) C dX12_draws_27 tn7 in7 ?_
  obtain ⟨h8, eh8, hf⟩ := nn_e hf
  refine e_hp eh8 ?_
  have uh8 : m_t h8 = m_t h := by rw [eh8]; exact rfl
  refine e_aload_n (pc := 28) C dX12_draws_28 0 rfl rfl ?_
  refine e_getr (pc := 29) 12 1 C dX12_draws_29 (by decide) (by decide) g1402 rfl (e_mt uh8 t1) ?_
  obtain ⟨b9, eb9, hf⟩ := ob_e hf
  refine e_rf eb9 ?_
  refine e_bipush (v := (15 : Int32)) (pc := 32) C dX12_draws_32 (by decide) ?_
  obtain ⟨q10, hf⟩ := ck_e hf
  obtain ⟨n11, tn11, in11⟩ := ix_e q10
  refine e_iald (pc := 34) C dX12_draws_34 tn11 in11 ?_
  refine e_ldcw (pc := 35) C dX12_draws_35 g2211 ?_
  refine e_idiv (pc := 38) C dX12_draws_38 (by decide) ?_
  refine e_iload_n (pc := 39) C dX12_draws_39 1 rfl rfl ?_
  obtain ⟨q12, hf⟩ := ck_e hf
  refine e_irem (pc := 40) C dX12_draws_40 q12 ?_
  obtain rfl := so_e hf
  exact e_iret (pc := 41) C hr dX12_draws_41 (Nat.le_of_ble_eq_true rfl) (Nat.le_of_ble_eq_true rfl)
theorem dX12_riderOf_0 : decode cX12_riderOf 0 = .ok (.iload_n 1, 1) := by decide +kernel
theorem dX12_riderOf_1 : decode cX12_riderOf 1 = .ok (.istore_n 2, 1) := by decide +kernel
theorem dX12_riderOf_2 : decode cX12_riderOf 2 = .ok (.iconst 0, 1) := by decide +kernel
theorem dX12_riderOf_3 : decode cX12_riderOf 3 = .ok (.istore_n 3, 1) := by decide +kernel
theorem dX12_riderOf_4 : decode cX12_riderOf 4 = .ok (.iload_n 3, 1) := by decide +kernel
theorem dX12_riderOf_5 : decode cX12_riderOf 5 = .ok (.aload_n 0, 1) := by decide +kernel
theorem dX12_riderOf_6 : decode cX12_riderOf 6 = .ok (.getfield 9, 3) := by decide +kernel
theorem dX12_riderOf_9 : decode cX12_riderOf 9 = .ok (.bipush 6, 2) := by decide +kernel
theorem dX12_riderOf_11 : decode cX12_riderOf 11 = .ok (.iaload, 1) := by decide +kernel
theorem dX12_riderOf_12 : decode cX12_riderOf 12 = .ok (.if_icmp .ge 26, 3) := by decide +kernel
theorem dX12_riderOf_15 : decode cX12_riderOf 15 = .ok (.aload_n 0, 1) := by decide +kernel
theorem dX12_riderOf_16 : decode cX12_riderOf 16 = .ok (.iload_n 3, 1) := by decide +kernel
theorem dX12_riderOf_17 : decode cX12_riderOf 17 = .ok (.invokevirtual 449, 3) := by decide +kernel
theorem dX12_riderOf_20 : decode cX12_riderOf 20 = .ok (.ifCond .eq 12, 3) := by decide +kernel
theorem dX12_riderOf_23 : decode cX12_riderOf 23 = .ok (.iload_n 2, 1) := by decide +kernel
theorem dX12_riderOf_24 : decode cX12_riderOf 24 = .ok (.ifCond .ne 5, 3) := by decide +kernel
theorem dX12_riderOf_27 : decode cX12_riderOf 27 = .ok (.iload_n 3, 1) := by decide +kernel
theorem dX12_riderOf_28 : decode cX12_riderOf 28 = .ok (.ireturn, 1) := by decide +kernel
theorem dX12_riderOf_29 : decode cX12_riderOf 29 = .ok (.iinc 2 (-1), 3) := by decide +kernel
theorem dX12_riderOf_32 : decode cX12_riderOf 32 = .ok (.iinc 3 1, 3) := by decide +kernel
theorem dX12_riderOf_35 : decode cX12_riderOf 35 = .ok (.goto (-31), 3) := by decide +kernel
theorem dX12_riderOf_38 : decode cX12_riderOf 38 = .ok (.iconst (-1), 1) := by decide +kernel
theorem dX12_riderOf_39 : decode cX12_riderOf 39 = .ok (.ireturn, 1) := by decide +kernel
def F_X12_riderOf_4 (G : GG) (v0 : Nat) (self_4 : Int32 → Int32 → AH → Option (Int32 × AH)) (v2 : Int32) (v3 : Int32) (h : AH) : Option (Int32 × AH) :=
ck (m_t h v0 = .inl 12) <|
ob (m_r h v0 1) fun b2 =>
ck (ixb h b2 .int (6 : Int32) = true) <|
if (m_i h b2 (6 : Int32).toNatClampNeg) ≤ v3 then (some ((-1 : Int32), h)) else
cb (f_X12_rides G v0 v3 h) fun r8 h6 =>
nn (fun (v2_32 : Int32) => (nn (v3 + (1 : Int32)) fun x9 =>
self_4 v2_32 x9 h6)) fun j_32 =>
if r8 = 0 then (j_32 v2) else
if v2 = 0 then (some (v3, h6)) else
nn (v2 + (-1 : Int32)) fun x12 =>
j_32 x12
def f_X12_riderOf (G : GG) (v0 : Nat) (v1 : Int32) (h : AH) : Option (Int32 × AH) :=
lq2 (F_X12_riderOf_4 G v0 ) bN v1 (0 : Int32) h
set_option maxHeartbeats 4000000 in
set_option maxRecDepth 100000 in
theorem el_X12_riderOf_4 {G : GG} {p : Program} {l : Launch} {e : Env} {s : State} {m : MethodId} {args : Array Value} {below : List Frame} {meth : Method} {c : Code} {y : Int32 × AH} (C : Cx G cX12_riderOf RX12 p s m args meth c) (hm : c.maxLocals = 4) (hr : meth.sig.returnType = (some .int)) (hin : meth.name = yX12_riderOf.name) {v0 : Nat}  :
    ∀ (n : Nat) (v2 : Int32) (v3 : Int32) (h : AH), lq2 (F_X12_riderOf_4 G v0) n v2 v3 h = some y → EE G p l e ({ frames := 1, cells := 0, slots := 0, locals := 21 } : Room) s m args below meth c (some (.int y.1), y.2) 0 0 4 [(0, .ref v0), (2, .int v2), (3, .int v3)] [] h 0 0 := by
  intro n
  induction n with
  | zero => intro v2 v3 h hf; exact (no_e hf).elim
  | succ n ih_4 =>
    intro v2 v3 h hf
    have hf : F_X12_riderOf_4 G v0 (lq2 (F_X12_riderOf_4 G v0) n) v2 v3 h = some y := hf
    generalize lq2 (F_X12_riderOf_4 G v0) n = self_4 at hf ih_4
    unfold F_X12_riderOf_4 at hf
    refine e_iload_n (pc := 4) C dX12_riderOf_4 2 rfl rfl ?_
    refine e_aload_n (pc := 5) C dX12_riderOf_5 0 rfl rfl ?_
    obtain ⟨t1, hf⟩ := ck_e hf
    refine e_getr (pc := 6) 12 1 C dX12_riderOf_6 (by decide) (by decide) g1402 rfl t1 ?_
    obtain ⟨b2, eb2, hf⟩ := ob_e hf
    refine e_rf eb2 ?_
    refine e_bipush (v := (6 : Int32)) (pc := 9) C dX12_riderOf_9 (by decide) ?_
    obtain ⟨q3, hf⟩ := ck_e hf
    obtain ⟨n4, tn4, in4⟩ := ix_e q3
    refine e_iald (pc := 11) C dX12_riderOf_11 tn4 in4 ?_
    rcases it_e hf with ⟨c5, hf⟩ | ⟨c5, hf⟩
    · refine e_icmp_ge (pc := 12) (tgt := 38) C dX12_riderOf_12 (by decide) (fun _ => ?_) (fun q => absurd c5 q)
      refine e_iconst (v := (-1 : Int32)) (pc := 38) C dX12_riderOf_38 (by decide) ?_
      obtain rfl := so_e hf
      exact e_iret (pc := 39) C hr dX12_riderOf_39 (Nat.le_of_ble_eq_true rfl) (Nat.le_of_ble_eq_true rfl)
    · refine e_icmp_ge (pc := 12) (tgt := 38) C dX12_riderOf_12 (by decide) (fun q => absurd q c5) (fun _ => ?_)
      refine e_aload_n (pc := 15) C dX12_riderOf_15 0 rfl rfl ?_
      refine e_iload_n (pc := 16) C dX12_riderOf_16 2 rfl rfl ?_
      obtain ⟨r8, h6, y7, hf⟩ := cb_e hf
      refine e_callVi (pc := 17) (st := []) 12 C (ct_X12_rides y7) dX12_riderOf_17 (by decide) t1 g1778 g1780 g76 g157 g1781 hd_X12_rides rfl ⟨Nat.le_of_ble_eq_true rfl, Nat.le_of_ble_eq_true rfl⟩ ⟨Nat.le_of_ble_eq_true rfl, Nat.le_of_ble_eq_true rfl⟩ rfl (Nat.le_of_ble_eq_true rfl) ?_
      obtain ⟨j_32, ej_32, hf⟩ := nn_e hf
      have W_32 : ∀ (v2_32 : Int32), j_32 v2_32 = some y → EE G p l e ({ frames := 1, cells := 0, slots := 0, locals := 21 } : Room) s m args below meth c (some (.int y.1), y.2) 0 0 32 [(0, .ref v0), (2, .int v2_32), (3, .int v3)] [] h6 0 0 := by
        intro v2_32 hf
        rw [ej_32] at hf
        obtain ⟨x9, ex9, hf⟩ := nn_e hf
        refine e_iinc (pc := 32) (v := x9) (lv2 := [(3, .int x9), (0, .ref v0), (2, .int v2_32)]) C hm dX12_riderOf_32 2 rfl (by rw [ex9]; rfl) (by decide) rfl ?_
        refine e_goto (pc := 35) (tgt := 4) C dX12_riderOf_35 (by decide) ?_
        refine e_lv (lv2 := [(0, .ref v0), (2, .int v2_32), (3, .int x9)]) [1, 2, 0] rfl ?_
        exact ih_4 v2_32 x9 h6 hf
      rcases it_e hf with ⟨c10, hf⟩ | ⟨c10, hf⟩
      · refine e_if_eq (pc := 20) (tgt := 32) C dX12_riderOf_20 (by decide) (fun _ => ?_) (fun q => absurd c10 q)
        exact W_32 v2 hf
      · refine e_if_eq (pc := 20) (tgt := 32) C dX12_riderOf_20 (by decide) (fun q => absurd q c10) (fun _ => ?_)
        refine e_iload_n (pc := 23) C dX12_riderOf_23 1 rfl rfl ?_
        rcases it_e hf with ⟨c11, hf⟩ | ⟨c11, hf⟩
        · refine e_if_ne (pc := 24) (tgt := 29) C dX12_riderOf_24 (by decide) (fun q => absurd c11 q) (fun _ => ?_)
          refine e_iload_n (pc := 27) C dX12_riderOf_27 2 rfl rfl ?_
          obtain rfl := so_e hf
          exact e_iret (pc := 28) C hr dX12_riderOf_28 (Nat.le_of_ble_eq_true rfl) (Nat.le_of_ble_eq_true rfl)
        · refine e_if_ne (pc := 24) (tgt := 29) C dX12_riderOf_24 (by decide) (fun _ => ?_) (fun q => absurd q c11)
          obtain ⟨x12, ex12, hf⟩ := nn_e hf
          refine e_iinc (pc := 29) (v := x12) (lv2 := [(2, .int x12), (0, .ref v0), (3, .int v3)]) C hm dX12_riderOf_29 1 rfl (by rw [ex12]; rfl) (by decide) rfl ?_
          refine e_lv (lv2 := [(0, .ref v0), (2, .int x12), (3, .int v3)]) [1, 0, 2] rfl ?_
          exact W_32 x12 hf
set_option maxHeartbeats 4000000 in
set_option maxRecDepth 100000 in
theorem ct_X12_riderOf {G : GG} {l : Launch} {v0 : Nat} {v1 : Int32} {h : AH} {y : Int32 × AH} (hf : f_X12_riderOf G v0 v1 h = some y) : Ct G l yX12_riderOf cX12_riderOf 4 (some .int) 1 21 0 0 [.ref v0, .int v1] h (some (.int y.1), y.2) := by
  refine ct_of (by decide) (Nat.le_of_ble_eq_true rfl) ?_
  intro p e s m args below meth c C hm hr hin
  have C : Cx G cX12_riderOf RX12 p s m args meth c := C
  refine e_lv (lv2 := [(0, .ref v0), (1, .int v1)]) [0, 1] rfl ?_
  unfold f_X12_riderOf at hf
  refine e_iload_n (pc := 0) C dX12_riderOf_0 1 rfl rfl ?_
  refine e_istore_n (pc := 1) (lv2 := [(2, .int v1), (0, .ref v0), (1, .int v1)]) C hm dX12_riderOf_1 rfl (by decide) rfl ?_
  refine e_iconst (v := (0 : Int32)) (pc := 2) C dX12_riderOf_2 (by decide) ?_
  refine e_istore_n (pc := 3) (lv2 := [(3, .int (0 : Int32)), (2, .int v1), (0, .ref v0), (1, .int v1)]) C hm dX12_riderOf_3 rfl (by decide) rfl ?_
  refine e_lv (lv2 := [(0, .ref v0), (2, .int v1), (3, .int (0 : Int32))]) [2, 1, 0] rfl ?_
  exact el_X12_riderOf_4 C hm hr hin bN v1 (0 : Int32) h hf
theorem dX12_crossAll_0 : decode cX12_crossAll 0 = .ok (.iconst 0, 1) := by decide +kernel
theorem dX12_crossAll_1 : decode cX12_crossAll 1 = .ok (.istore_n 1, 1) := by decide +kernel
theorem dX12_crossAll_2 : decode cX12_crossAll 2 = .ok (.iconst 0, 1) := by decide +kernel
theorem dX12_crossAll_3 : decode cX12_crossAll 3 = .ok (.istore_n 2, 1) := by decide +kernel
theorem dX12_crossAll_4 : decode cX12_crossAll 4 = .ok (.iload_n 2, 1) := by decide +kernel
theorem dX12_crossAll_5 : decode cX12_crossAll 5 = .ok (.aload_n 0, 1) := by decide +kernel
theorem dX12_crossAll_6 : decode cX12_crossAll 6 = .ok (.getfield 9, 3) := by decide +kernel
theorem dX12_crossAll_9 : decode cX12_crossAll 9 = .ok (.bipush 6, 2) := by decide +kernel
theorem dX12_crossAll_11 : decode cX12_crossAll 11 = .ok (.iaload, 1) := by decide +kernel
theorem dX12_crossAll_12 : decode cX12_crossAll 12 = .ok (.if_icmp .ge 30, 3) := by decide +kernel
theorem dX12_crossAll_15 : decode cX12_crossAll 15 = .ok (.iload_n 1, 1) := by decide +kernel
theorem dX12_crossAll_16 : decode cX12_crossAll 16 = .ok (.aload_n 0, 1) := by decide +kernel
theorem dX12_crossAll_17 : decode cX12_crossAll 17 = .ok (.iload_n 2, 1) := by decide +kernel
theorem dX12_crossAll_18 : decode cX12_crossAll 18 = .ok (.invokevirtual 449, 3) := by decide +kernel
theorem dX12_crossAll_21 : decode cX12_crossAll 21 = .ok (.ifCond .eq 12, 3) := by decide +kernel
theorem dX12_crossAll_24 : decode cX12_crossAll 24 = .ok (.aload_n 0, 1) := by decide +kernel
theorem dX12_crossAll_25 : decode cX12_crossAll 25 = .ok (.getfield 40, 3) := by decide +kernel
theorem dX12_crossAll_28 : decode cX12_crossAll 28 = .ok (.iload_n 2, 1) := by decide +kernel
theorem dX12_crossAll_29 : decode cX12_crossAll 29 = .ok (.iaload, 1) := by decide +kernel
theorem dX12_crossAll_30 : decode cX12_crossAll 30 = .ok (.goto 4, 3) := by decide +kernel
theorem dX12_crossAll_33 : decode cX12_crossAll 33 = .ok (.iconst 0, 1) := by decide +kernel
theorem dX12_crossAll_34 : decode cX12_crossAll 34 = .ok (.iadd, 1) := by decide +kernel
theorem dX12_crossAll_35 : decode cX12_crossAll 35 = .ok (.istore_n 1, 1) := by decide +kernel
theorem dX12_crossAll_36 : decode cX12_crossAll 36 = .ok (.iinc 2 1, 3) := by decide +kernel
theorem dX12_crossAll_39 : decode cX12_crossAll 39 = .ok (.goto (-35), 3) := by decide +kernel
theorem dX12_crossAll_42 : decode cX12_crossAll 42 = .ok (.iload_n 1, 1) := by decide +kernel
theorem dX12_crossAll_43 : decode cX12_crossAll 43 = .ok (.ireturn, 1) := by decide +kernel
def F_X12_crossAll_4 (G : GG) (v0 : Nat) (self_4 : Int32 → Int32 → AH → Option (Int32 × AH)) (v1 : Int32) (v2 : Int32) (h : AH) : Option (Int32 × AH) :=
ck (m_t h v0 = .inl 12) <|
ob (m_r h v0 1) fun b2 =>
ck (ixb h b2 .int (6 : Int32) = true) <|
if (m_i h b2 (6 : Int32).toNatClampNeg) ≤ v2 then (some (v1, h)) else
cb (f_X12_rides G v0 v2 h) fun r8 h6 =>
nn (fun (s0_34 : Int32) => (nn (v1 + s0_34) fun x9 =>
nn (v2 + (1 : Int32)) fun x10 =>
self_4 x9 x10 h6)) fun j_34 =>
if r8 = 0 then (j_34 (0 : Int32)) else
ck (m_t h6 v0 = .inl 12) <|
ob (m_r h6 v0 11) fun b13 =>
ck (ixb h6 b13 .int v2 = true) <|
j_34 (m_i h6 b13 v2.toNatClampNeg)
def f_X12_crossAll (G : GG) (v0 : Nat) (h : AH) : Option (Int32 × AH) :=
lq2 (F_X12_crossAll_4 G v0 ) bN (0 : Int32) (0 : Int32) h
set_option maxHeartbeats 4000000 in
set_option maxRecDepth 100000 in
theorem el_X12_crossAll_4 {G : GG} {p : Program} {l : Launch} {e : Env} {s : State} {m : MethodId} {args : Array Value} {below : List Frame} {meth : Method} {c : Code} {y : Int32 × AH} (C : Cx G cX12_crossAll RX12 p s m args meth c) (hm : c.maxLocals = 3) (hr : meth.sig.returnType = (some .int)) (hin : meth.name = yX12_crossAll.name) {v0 : Nat}  :
    ∀ (n : Nat) (v1 : Int32) (v2 : Int32) (h : AH), lq2 (F_X12_crossAll_4 G v0) n v1 v2 h = some y → EE G p l e ({ frames := 1, cells := 0, slots := 0, locals := 21 } : Room) s m args below meth c (some (.int y.1), y.2) 0 0 4 [(0, .ref v0), (1, .int v1), (2, .int v2)] [] h 0 0 := by
  intro n
  induction n with
  | zero => intro v1 v2 h hf; exact (no_e hf).elim
  | succ n ih_4 =>
    intro v1 v2 h hf
    have hf : F_X12_crossAll_4 G v0 (lq2 (F_X12_crossAll_4 G v0) n) v1 v2 h = some y := hf
    generalize lq2 (F_X12_crossAll_4 G v0) n = self_4 at hf ih_4
    unfold F_X12_crossAll_4 at hf
    refine e_iload_n (pc := 4) C dX12_crossAll_4 2 rfl rfl ?_
    refine e_aload_n (pc := 5) C dX12_crossAll_5 0 rfl rfl ?_
    obtain ⟨t1, hf⟩ := ck_e hf
    refine e_getr (pc := 6) 12 1 C dX12_crossAll_6 (by decide) (by decide) g1402 rfl t1 ?_
    obtain ⟨b2, eb2, hf⟩ := ob_e hf
    refine e_rf eb2 ?_
    refine e_bipush (v := (6 : Int32)) (pc := 9) C dX12_crossAll_9 (by decide) ?_
    obtain ⟨q3, hf⟩ := ck_e hf
    obtain ⟨n4, tn4, in4⟩ := ix_e q3
    refine e_iald (pc := 11) C dX12_crossAll_11 tn4 in4 ?_
    rcases it_e hf with ⟨c5, hf⟩ | ⟨c5, hf⟩
    · refine e_icmp_ge (pc := 12) (tgt := 42) C dX12_crossAll_12 (by decide) (fun _ => ?_) (fun q => absurd c5 q)
      refine e_iload_n (pc := 42) C dX12_crossAll_42 1 rfl rfl ?_
      obtain rfl := so_e hf
      exact e_iret (pc := 43) C hr dX12_crossAll_43 (Nat.le_of_ble_eq_true rfl) (Nat.le_of_ble_eq_true rfl)
    · refine e_icmp_ge (pc := 12) (tgt := 42) C dX12_crossAll_12 (by decide) (fun q => absurd q c5) (fun _ => ?_)
      refine e_iload_n (pc := 15) C dX12_crossAll_15 1 rfl rfl ?_
      refine e_aload_n (pc := 16) C dX12_crossAll_16 0 rfl rfl ?_
      refine e_iload_n (pc := 17) C dX12_crossAll_17 2 rfl rfl ?_
      obtain ⟨r8, h6, y7, hf⟩ := cb_e hf
      refine e_callVi (pc := 18) (st := [.int v1]) 12 C (ct_X12_rides y7) dX12_crossAll_18 (by decide) t1 g1778 g1780 g76 g157 g1781 hd_X12_rides rfl ⟨Nat.le_of_ble_eq_true rfl, Nat.le_of_ble_eq_true rfl⟩ ⟨Nat.le_of_ble_eq_true rfl, Nat.le_of_ble_eq_true rfl⟩ rfl (Nat.le_of_ble_eq_true rfl) ?_
      obtain ⟨j_34, ej_34, hf⟩ := nn_e hf
      have W_34 : ∀ (s0_34 : Int32), j_34 s0_34 = some y → EE G p l e ({ frames := 1, cells := 0, slots := 0, locals := 21 } : Room) s m args below meth c (some (.int y.1), y.2) 0 0 34 [(0, .ref v0), (2, .int v2)] [.int s0_34, .int v1] h6 0 0 := by
        intro s0_34 hf
        rw [ej_34] at hf
        refine e_iadd (pc := 34) C dX12_crossAll_34 ?_
        obtain ⟨x9, ex9, hf⟩ := nn_e hf
        refine e_topi ex9 ?_
        refine e_istore_n (pc := 35) (lv2 := [(1, .int x9), (0, .ref v0), (2, .int v2)]) C hm dX12_crossAll_35 rfl (by decide) rfl ?_
        obtain ⟨x10, ex10, hf⟩ := nn_e hf
        refine e_iinc (pc := 36) (v := x10) (lv2 := [(2, .int x10), (1, .int x9), (0, .ref v0)]) C hm dX12_crossAll_36 2 rfl (by rw [ex10]; rfl) (by decide) rfl ?_
        refine e_goto (pc := 39) (tgt := 4) C dX12_crossAll_39 (by decide) ?_
        refine e_lv (lv2 := [(0, .ref v0), (1, .int x9), (2, .int x10)]) [2, 1, 0] rfl ?_
        exact ih_4 x9 x10 h6 hf
      rcases it_e hf with ⟨c11, hf⟩ | ⟨c11, hf⟩
      · refine e_if_eq (pc := 21) (tgt := 33) C dX12_crossAll_21 (by decide) (fun _ => ?_) (fun q => absurd c11 q)
        refine e_iconst (v := (0 : Int32)) (pc := 33) C dX12_crossAll_33 (by decide) ?_
        refine e_lv (lv2 := [(0, .ref v0), (2, .int v2)]) [0, 2] rfl ?_
        exact W_34 (0 : Int32) hf
      · refine e_if_eq (pc := 21) (tgt := 33) C dX12_crossAll_21 (by decide) (fun q => absurd q c11) (fun _ => ?_)
        refine e_aload_n (pc := 24) C dX12_crossAll_24 0 rfl rfl ?_
        obtain ⟨t12, hf⟩ := ck_e hf
        refine e_getr (pc := 25) 12 11 C dX12_crossAll_25 (by decide) (by decide) g1412 rfl t12 ?_
        obtain ⟨b13, eb13, hf⟩ := ob_e hf
        refine e_rf eb13 ?_
        refine e_iload_n (pc := 28) C dX12_crossAll_28 2 rfl rfl ?_
        obtain ⟨q14, hf⟩ := ck_e hf
        obtain ⟨n15, tn15, in15⟩ := ix_e q14
        refine e_iald (pc := 29) C dX12_crossAll_29 tn15 in15 ?_
        refine e_goto (pc := 30) (tgt := 34) C dX12_crossAll_30 (by decide) ?_
        refine e_lv (lv2 := [(0, .ref v0), (2, .int v2)]) [0, 2] rfl ?_
        exact W_34 (m_i h6 b13 v2.toNatClampNeg) hf
set_option maxHeartbeats 4000000 in
set_option maxRecDepth 100000 in
theorem ct_X12_crossAll {G : GG} {l : Launch} {v0 : Nat} {h : AH} {y : Int32 × AH} (hf : f_X12_crossAll G v0 h = some y) : Ct G l yX12_crossAll cX12_crossAll 3 (some .int) 1 21 0 0 [.ref v0] h (some (.int y.1), y.2) := by
  refine ct_of (by decide) (Nat.le_of_ble_eq_true rfl) ?_
  intro p e s m args below meth c C hm hr hin
  have C : Cx G cX12_crossAll RX12 p s m args meth c := C
  refine e_lv (lv2 := [(0, .ref v0)]) [0] rfl ?_
  unfold f_X12_crossAll at hf
  refine e_iconst (v := (0 : Int32)) (pc := 0) C dX12_crossAll_0 (by decide) ?_
  refine e_istore_n (pc := 1) (lv2 := [(1, .int (0 : Int32)), (0, .ref v0)]) C hm dX12_crossAll_1 rfl (by decide) rfl ?_
  refine e_iconst (v := (0 : Int32)) (pc := 2) C dX12_crossAll_2 (by decide) ?_
  refine e_istore_n (pc := 3) (lv2 := [(2, .int (0 : Int32)), (1, .int (0 : Int32)), (0, .ref v0)]) C hm dX12_crossAll_3 rfl (by decide) rfl ?_
  refine e_lv (lv2 := [(0, .ref v0), (1, .int (0 : Int32)), (2, .int (0 : Int32))]) [2, 1, 0] rfl ?_
  exact el_X12_crossAll_4 C hm hr hin bN (0 : Int32) (0 : Int32) h hf
theorem dX12_journeys_0 : decode cX12_journeys 0 = .ok (.aload_n 0, 1) := by decide +kernel
theorem dX12_journeys_1 : decode cX12_journeys 1 = .ok (.invokevirtual 468, 3) := by decide +kernel
theorem dX12_journeys_4 : decode cX12_journeys 4 = .ok (.ifCond .eq 58, 3) := by decide +kernel
theorem dX12_journeys_7 : decode cX12_journeys 7 = .ok (.iload_n 1, 1) := by decide +kernel
theorem dX12_journeys_8 : decode cX12_journeys 8 = .ok (.i2l, 1) := by decide +kernel
theorem dX12_journeys_9 : decode cX12_journeys 9 = .ok (.lconst 1, 1) := by decide +kernel
theorem dX12_journeys_10 : decode cX12_journeys 10 = .ok (.ldc2_w 685, 3) := by decide +kernel
theorem dX12_journeys_13 : decode cX12_journeys 13 = .ok (.invokestatic 206, 3) := by decide +kernel
theorem dX12_journeys_16 : decode cX12_journeys 16 = .ok (.ifCond .eq 46, 3) := by decide +kernel
theorem dX12_journeys_19 : decode cX12_journeys 19 = .ok (.iload_n 2, 1) := by decide +kernel
theorem dX12_journeys_20 : decode cX12_journeys 20 = .ok (.i2l, 1) := by decide +kernel
theorem dX12_journeys_21 : decode cX12_journeys 21 = .ok (.lconst 1, 1) := by decide +kernel
theorem dX12_journeys_22 : decode cX12_journeys 22 = .ok (.ldc2_w 615, 3) := by decide +kernel
theorem dX12_journeys_25 : decode cX12_journeys 25 = .ok (.invokestatic 206, 3) := by decide +kernel
theorem dX12_journeys_28 : decode cX12_journeys 28 = .ok (.ifCond .eq 34, 3) := by decide +kernel
theorem dX12_journeys_31 : decode cX12_journeys 31 = .ok (.iload_n 2, 1) := by decide +kernel
theorem dX12_journeys_32 : decode cX12_journeys 32 = .ok (.aload_n 0, 1) := by decide +kernel
theorem dX12_journeys_33 : decode cX12_journeys 33 = .ok (.invokevirtual 531, 3) := by decide +kernel
theorem dX12_journeys_36 : decode cX12_journeys 36 = .ok (.if_icmp .gt 26, 3) := by decide +kernel
theorem dX12_journeys_39 : decode cX12_journeys 39 = .ok (.iload_n 3, 1) := by decide +kernel
theorem dX12_journeys_40 : decode cX12_journeys 40 = .ok (.i2l, 1) := by decide +kernel
theorem dX12_journeys_41 : decode cX12_journeys 41 = .ok (.lconst 0, 1) := by decide +kernel
theorem dX12_journeys_42 : decode cX12_journeys 42 = .ok (.ldc2_w 687, 3) := by decide +kernel
theorem dX12_journeys_45 : decode cX12_journeys 45 = .ok (.invokestatic 206, 3) := by decide +kernel
theorem dX12_journeys_48 : decode cX12_journeys 48 = .ok (.ifCond .eq 14, 3) := by decide +kernel
theorem dX12_journeys_51 : decode cX12_journeys 51 = .ok (.iload 4, 2) := by decide +kernel
theorem dX12_journeys_53 : decode cX12_journeys 53 = .ok (.i2l, 1) := by decide +kernel
theorem dX12_journeys_54 : decode cX12_journeys 54 = .ok (.lconst 0, 1) := by decide +kernel
theorem dX12_journeys_55 : decode cX12_journeys 55 = .ok (.lconst 1, 1) := by decide +kernel
theorem dX12_journeys_56 : decode cX12_journeys 56 = .ok (.invokestatic 206, 3) := by decide +kernel
theorem dX12_journeys_59 : decode cX12_journeys 59 = .ok (.ifCond .ne 5, 3) := by decide +kernel
theorem dX12_journeys_62 : decode cX12_journeys 62 = .ok (.iconst (-1), 1) := by decide +kernel
theorem dX12_journeys_63 : decode cX12_journeys 63 = .ok (.ireturn, 1) := by decide +kernel
theorem dX12_journeys_64 : decode cX12_journeys 64 = .ok (.aload_n 0, 1) := by decide +kernel
theorem dX12_journeys_65 : decode cX12_journeys 65 = .ok (.getfield 9, 3) := by decide +kernel
theorem dX12_journeys_68 : decode cX12_journeys 68 = .ok (.bipush 15, 2) := by decide +kernel
theorem dX12_journeys_70 : decode cX12_journeys 70 = .ok (.iaload, 1) := by decide +kernel
theorem dX12_journeys_71 : decode cX12_journeys 71 = .ok (.istore 5, 2) := by decide +kernel
theorem dX12_journeys_73 : decode cX12_journeys 73 = .ok (.iload 5, 2) := by decide +kernel
theorem dX12_journeys_75 : decode cX12_journeys 75 = .ok (.istore 6, 2) := by decide +kernel
theorem dX12_journeys_77 : decode cX12_journeys 77 = .ok (.iconst 0, 1) := by decide +kernel
theorem dX12_journeys_78 : decode cX12_journeys 78 = .ok (.istore 7, 2) := by decide +kernel
theorem dX12_journeys_80 : decode cX12_journeys 80 = .ok (.aload_n 0, 1) := by decide +kernel
theorem dX12_journeys_81 : decode cX12_journeys 81 = .ok (.invokevirtual 551, 3) := by decide +kernel
theorem dX12_journeys_84 : decode cX12_journeys 84 = .ok (.iconst 0, 1) := by decide +kernel
theorem dX12_journeys_85 : decode cX12_journeys 85 = .ok (.istore 8, 2) := by decide +kernel
theorem dX12_journeys_87 : decode cX12_journeys 87 = .ok (.iload 8, 2) := by decide +kernel
theorem dX12_journeys_89 : decode cX12_journeys 89 = .ok (.iload_n 1, 1) := by decide +kernel
theorem dX12_journeys_90 : decode cX12_journeys 90 = .ok (.if_icmp .ge 117, 3) := by decide +kernel
theorem dX12_journeys_93 : decode cX12_journeys 93 = .ok (.aload_n 0, 1) := by decide +kernel
theorem dX12_journeys_94 : decode cX12_journeys 94 = .ok (.getfield 9, 3) := by decide +kernel
theorem dX12_journeys_97 : decode cX12_journeys 97 = .ok (.bipush 15, 2) := by decide +kernel
theorem dX12_journeys_99 : decode cX12_journeys 99 = .ok (.iload 6, 2) := by decide +kernel
theorem dX12_journeys_101 : decode cX12_journeys 101 = .ok (.iastore, 1) := by decide +kernel
theorem dX12_journeys_102 : decode cX12_journeys 102 = .ok (.iconst 0, 1) := by decide +kernel
theorem dX12_journeys_103 : decode cX12_journeys 103 = .ok (.istore 9, 2) := by decide +kernel
theorem dX12_journeys_105 : decode cX12_journeys 105 = .ok (.iconst 0, 1) := by decide +kernel
theorem dX12_journeys_106 : decode cX12_journeys 106 = .ok (.istore 10, 2) := by decide +kernel
theorem dX12_journeys_108 : decode cX12_journeys 108 = .ok (.iload 10, 2) := by decide +kernel
theorem dX12_journeys_110 : decode cX12_journeys 110 = .ok (.iload_n 2, 1) := by decide +kernel
theorem dX12_journeys_111 : decode cX12_journeys 111 = .ok (.if_icmp .ge 58, 3) := by decide +kernel
theorem dX12_journeys_114 : decode cX12_journeys 114 = .ok (.aload_n 0, 1) := by decide +kernel
theorem dX12_journeys_115 : decode cX12_journeys 115 = .ok (.bipush 100, 2) := by decide +kernel
theorem dX12_journeys_117 : decode cX12_journeys 117 = .ok (.invokevirtual 689, 3) := by decide +kernel
theorem dX12_journeys_120 : decode cX12_journeys 120 = .ok (.iload_n 3, 1) := by decide +kernel
theorem dX12_journeys_121 : decode cX12_journeys 121 = .ok (.if_icmp .ge 33, 3) := by decide +kernel
theorem dX12_journeys_124 : decode cX12_journeys 124 = .ok (.aload_n 0, 1) := by decide +kernel
theorem dX12_journeys_125 : decode cX12_journeys 125 = .ok (.invokevirtual 692, 3) := by decide +kernel
theorem dX12_journeys_128 : decode cX12_journeys 128 = .ok (.ifCond .le 26, 3) := by decide +kernel
theorem dX12_journeys_131 : decode cX12_journeys 131 = .ok (.aload_n 0, 1) := by decide +kernel
theorem dX12_journeys_132 : decode cX12_journeys 132 = .ok (.getfield 9, 3) := by decide +kernel
theorem dX12_journeys_135 : decode cX12_journeys 135 = .ok (.bipush 13, 2) := by decide +kernel
theorem dX12_journeys_137 : decode cX12_journeys 137 = .ok (.aload_n 0, 1) := by decide +kernel
theorem dX12_journeys_138 : decode cX12_journeys 138 = .ok (.aload_n 0, 1) := by decide +kernel
theorem dX12_journeys_139 : decode cX12_journeys 139 = .ok (.aload_n 0, 1) := by decide +kernel
theorem dX12_journeys_140 : decode cX12_journeys 140 = .ok (.aload_n 0, 1) := by decide +kernel
theorem dX12_journeys_141 : decode cX12_journeys 141 = .ok (.invokevirtual 692, 3) := by decide +kernel
theorem dX12_journeys_144 : decode cX12_journeys 144 = .ok (.invokevirtual 689, 3) := by decide +kernel
theorem dX12_journeys_147 : decode cX12_journeys 147 = .ok (.invokevirtual 695, 3) := by decide +kernel
theorem dX12_journeys_150 : decode cX12_journeys 150 = .ok (.invokevirtual 455, 3) := by decide +kernel
theorem dX12_journeys_153 : decode cX12_journeys 153 = .ok (.iastore, 1) := by decide +kernel
theorem dX12_journeys_154 : decode cX12_journeys 154 = .ok (.iload 9, 2) := by decide +kernel
theorem dX12_journeys_156 : decode cX12_journeys 156 = .ok (.aload_n 0, 1) := by decide +kernel
theorem dX12_journeys_157 : decode cX12_journeys 157 = .ok (.invokevirtual 537, 3) := by decide +kernel
theorem dX12_journeys_160 : decode cX12_journeys 160 = .ok (.iadd, 1) := by decide +kernel
theorem dX12_journeys_161 : decode cX12_journeys 161 = .ok (.istore 9, 2) := by decide +kernel
theorem dX12_journeys_163 : decode cX12_journeys 163 = .ok (.iinc 10 1, 3) := by decide +kernel
theorem dX12_journeys_166 : decode cX12_journeys 166 = .ok (.goto (-58), 3) := by decide +kernel
theorem dX12_journeys_169 : decode cX12_journeys 169 = .ok (.iload 7, 2) := by decide +kernel
theorem dX12_journeys_171 : decode cX12_journeys 171 = .ok (.iload 4, 2) := by decide +kernel
theorem dX12_journeys_173 : decode cX12_journeys 173 = .ok (.ifCond .ne 8, 3) := by decide +kernel
theorem dX12_journeys_176 : decode cX12_journeys 176 = .ok (.iload 9, 2) := by decide +kernel
theorem dX12_journeys_178 : decode cX12_journeys 178 = .ok (.goto 7, 3) := by decide +kernel
theorem dX12_journeys_181 : decode cX12_journeys 181 = .ok (.aload_n 0, 1) := by decide +kernel
theorem dX12_journeys_182 : decode cX12_journeys 182 = .ok (.invokevirtual 698, 3) := by decide +kernel
theorem dX12_journeys_185 : decode cX12_journeys 185 = .ok (.iadd, 1) := by decide +kernel
theorem dX12_journeys_186 : decode cX12_journeys 186 = .ok (.istore 7, 2) := by decide +kernel
theorem dX12_journeys_188 : decode cX12_journeys 188 = .ok (.aload_n 0, 1) := by decide +kernel
theorem dX12_journeys_189 : decode cX12_journeys 189 = .ok (.getfield 9, 3) := by decide +kernel
theorem dX12_journeys_192 : decode cX12_journeys 192 = .ok (.bipush 15, 2) := by decide +kernel
theorem dX12_journeys_194 : decode cX12_journeys 194 = .ok (.iaload, 1) := by decide +kernel
theorem dX12_journeys_195 : decode cX12_journeys 195 = .ok (.istore 6, 2) := by decide +kernel
theorem dX12_journeys_197 : decode cX12_journeys 197 = .ok (.aload_n 0, 1) := by decide +kernel
theorem dX12_journeys_198 : decode cX12_journeys 198 = .ok (.invokevirtual 560, 3) := by decide +kernel
theorem dX12_journeys_201 : decode cX12_journeys 201 = .ok (.iinc 8 1, 3) := by decide +kernel
theorem dX12_journeys_204 : decode cX12_journeys 204 = .ok (.goto (-117), 3) := by decide +kernel
theorem dX12_journeys_207 : decode cX12_journeys 207 = .ok (.aload_n 0, 1) := by decide +kernel
theorem dX12_journeys_208 : decode cX12_journeys 208 = .ok (.getfield 9, 3) := by decide +kernel
theorem dX12_journeys_211 : decode cX12_journeys 211 = .ok (.bipush 15, 2) := by decide +kernel
theorem dX12_journeys_213 : decode cX12_journeys 213 = .ok (.iload 5, 2) := by decide +kernel
theorem dX12_journeys_215 : decode cX12_journeys 215 = .ok (.iastore, 1) := by decide +kernel
theorem dX12_journeys_216 : decode cX12_journeys 216 = .ok (.iload 7, 2) := by decide +kernel
theorem dX12_journeys_218 : decode cX12_journeys 218 = .ok (.ireturn, 1) := by decide +kernel
def F_X12_journeys_108 (G : GG) (v0 : Nat) (v1 : Int32) (v2 : Int32) (v3 : Int32) (v4 : Int32) (v5 : Int32) (v7 : Int32) (v8 : Int32) (K_169 : Int32 → AH → Option (Int32 × AH)) (self_108 : Int32 → Int32 → AH → Option (Int32 × AH)) (v9 : Int32) (v10 : Int32) (h : AH) : Option (Int32 × AH) :=
if v2 ≤ v10 then (K_169 v9 h) else
ck (m_t h v0 = .inl 12) <|
cb (f_X12_draws G v0 (100 : Int32) h) fun r44 h42 =>
nn (fun (h_154 : AH) => (ck (m_t h_154 v0 = .inl 12) <|
cb (f_X12_mileGoes G v0 h_154) fun r48 h46 =>
nn (v9 + r48) fun x49 =>
nn (v10 + (1 : Int32)) fun x50 =>
self_108 x49 x50 h46)) fun j_154 =>
if v3 ≤ r44 then (j_154 h42) else
ck (m_t h42 v0 = .inl 12) <|
cb (f_X12_ridersMany G v0 h42) fun r55 h53 =>
if r55 ≤ 0 then (j_154 h53) else
ck (m_t h53 v0 = .inl 12) <|
ob (m_r h53 v0 1) fun b58 =>
cb (f_X12_ridersMany G v0 h53) fun r61 h59 =>
ck (m_t h59 v0 = .inl 12) <|
cb (f_X12_draws G v0 r61 h59) fun r65 h63 =>
ck (m_t h63 v0 = .inl 12) <|
cb (f_X12_riderOf G v0 r65 h63) fun r69 h67 =>
ck (m_t h67 v0 = .inl 12) <|
cb (f_X12_wantOf G v0 r69 h67) fun r73 h71 =>
ck (ixb h71 b58 .int (13 : Int32) = true) <|
nn (m_si h71 b58 (13 : Int32).toNatClampNeg r73) fun h76 =>
j_154 h76
def F_X12_journeys_87 (G : GG) (v0 : Nat) (v1 : Int32) (v2 : Int32) (v3 : Int32) (v4 : Int32) (v5 : Int32) (K_207 : Int32 → AH → Option (Int32 × AH)) (self_87 : Int32 → Int32 → Int32 → AH → Option (Int32 × AH)) (v6 : Int32) (v7 : Int32) (v8 : Int32) (h : AH) : Option (Int32 × AH) :=
if v1 ≤ v8 then (K_207 v7 h) else
ck (m_t h v0 = .inl 12) <|
ob (m_r h v0 1) fun b36 =>
ck (ixb h b36 .int (15 : Int32) = true) <|
nn (m_si h b36 (15 : Int32).toNatClampNeg v6) fun h39 =>
lq2 (F_X12_journeys_108 G v0 v1 v2 v3 v4 v5 v7 v8 (fun (v9_169 : Int32) (h_169 : AH) => (nn (fun (s0_185 : Int32) (h_185 : AH) => (nn (v7 + s0_185) fun x77 =>
ck (m_t h_185 v0 = .inl 12) <|
ob (m_r h_185 v0 1) fun b79 =>
ck (ixb h_185 b79 .int (15 : Int32) = true) <|
nn (m_i h_185 b79 (15 : Int32).toNatClampNeg) fun x82 =>
ob (f_X12_laysBack G v0 h_185) fun h83 =>
nn (v8 + (1 : Int32)) fun x85 =>
self_87 x82 x77 x85 h83)) fun j_185 =>
if v4 = 0 then (j_185 v9_169 h_169) else
ck (m_t h_169 v0 = .inl 12) <|
cb (f_X12_crossAll G v0 h_169) fun r90 h88 =>
j_185 r90 h88))) bN (0 : Int32) (0 : Int32) h39
def f_X12_journeys (G : GG) (v0 : Nat) (v1 : Int32) (v2 : Int32) (v3 : Int32) (v4 : Int32) (h : AH) : Option (Int32 × AH) :=
ck (m_t h v0 = .inl 12) <|
cb (f_X12_isTrain G v0 h) fun r4 h2 =>
if r4 = 0 then (some ((-1 : Int32), h2)) else
cb (f_X12_in G v1.toInt64 (1 : Int64) (10 : Int64) h2) fun r8 h6 =>
if r8 = 0 then (some ((-1 : Int32), h6)) else
cb (f_X12_in G v2.toInt64 (1 : Int64) (60 : Int64) h6) fun r12 h10 =>
if r12 = 0 then (some ((-1 : Int32), h10)) else
ck (m_t h10 v0 = .inl 12) <|
cb (f_X12_milesLeft G v0 h10) fun r17 h15 =>
if r17 < v2 then (some ((-1 : Int32), h15)) else
cb (f_X12_in G v3.toInt64 (0 : Int64) (100 : Int64) h15) fun r21 h19 =>
if r21 = 0 then (some ((-1 : Int32), h19)) else
cb (f_X12_in G v4.toInt64 (0 : Int64) (1 : Int64) h19) fun r25 h23 =>
if r25 = 0 then (some ((-1 : Int32), h23)) else
ck (m_t h23 v0 = .inl 12) <|
ob (m_r h23 v0 1) fun b28 =>
ck (ixb h23 b28 .int (15 : Int32) = true) <|
nn (m_i h23 b28 (15 : Int32).toNatClampNeg) fun x31 =>
ob (f_X12_keepsAll G v0 h23) fun h32 =>
lq3 (F_X12_journeys_87 G v0 v1 v2 v3 v4 x31 (fun (v7_207 : Int32) (h_207 : AH) => (ck (m_t h_207 v0 = .inl 12) <|
ob (m_r h_207 v0 1) fun b92 =>
ck (ixb h_207 b92 .int (15 : Int32) = true) <|
nn (m_si h_207 b92 (15 : Int32).toNatClampNeg x31) fun h95 =>
some (v7_207, h95)))) bN x31 (0 : Int32) (0 : Int32) h32
set_option maxHeartbeats 4000000 in
set_option maxRecDepth 100000 in
theorem el_X12_journeys_108 {G : GG} {p : Program} {l : Launch} {e : Env} {s : State} {m : MethodId} {args : Array Value} {below : List Frame} {meth : Method} {c : Code} {y : Int32 × AH} (C : Cx G cX12_journeys RX12 p s m args meth c) (hm : c.maxLocals = 11) (hr : meth.sig.returnType = (some .int)) (hin : meth.name = yX12_journeys.name) {v0 : Nat} {v1 : Int32} {v2 : Int32} {v3 : Int32} {v4 : Int32} {v5 : Int32} {v7 : Int32} {v8 : Int32} {K_169 : Int32 → AH → Option (Int32 × AH)} (hK_169 : ∀ (w9 : Int32) (h : AH), K_169 w9 h = some y → EE G p l e ({ frames := 6, cells := 0, slots := 0, locals := 137 } : Room) s m args below meth c (some (.int y.1), y.2) 0 0 169 [(0, .ref v0), (1, .int v1), (2, .int v2), (3, .int v3), (4, .int v4), (5, .int v5), (7, .int v7), (8, .int v8), (9, .int w9)] [] h 0 0) :
    ∀ (n : Nat) (v9 : Int32) (v10 : Int32) (h : AH), lq2 (F_X12_journeys_108 G v0 v1 v2 v3 v4 v5 v7 v8 K_169) n v9 v10 h = some y → EE G p l e ({ frames := 6, cells := 0, slots := 0, locals := 137 } : Room) s m args below meth c (some (.int y.1), y.2) 0 0 108 [(0, .ref v0), (1, .int v1), (2, .int v2), (3, .int v3), (4, .int v4), (5, .int v5), (7, .int v7), (8, .int v8), (9, .int v9), (10, .int v10)] [] h 0 0 := by
  intro n
  induction n with
  | zero => intro v9 v10 h hf; exact (no_e hf).elim
  | succ n ih_108 =>
    intro v9 v10 h hf
    have hf : F_X12_journeys_108 G v0 v1 v2 v3 v4 v5 v7 v8 K_169 (lq2 (F_X12_journeys_108 G v0 v1 v2 v3 v4 v5 v7 v8 K_169) n) v9 v10 h = some y := hf
    generalize lq2 (F_X12_journeys_108 G v0 v1 v2 v3 v4 v5 v7 v8 K_169) n = self_108 at hf ih_108
    unfold F_X12_journeys_108 at hf
    refine e_iload (pc := 108) C dX12_journeys_108 9 rfl ?_
    refine e_iload_n (pc := 110) C dX12_journeys_110 2 rfl rfl ?_
    rcases it_e hf with ⟨c40, hf⟩ | ⟨c40, hf⟩
    · refine e_icmp_ge (pc := 111) (tgt := 169) C dX12_journeys_111 (by decide) (fun _ => ?_) (fun q => absurd c40 q)
      refine e_lv (lv2 := [(0, .ref v0), (1, .int v1), (2, .int v2), (3, .int v3), (4, .int v4), (5, .int v5), (7, .int v7), (8, .int v8), (9, .int v9)]) [0, 1, 2, 3, 4, 5, 6, 7, 8] rfl ?_
      exact hK_169 v9 h hf
    · refine e_icmp_ge (pc := 111) (tgt := 169) C dX12_journeys_111 (by decide) (fun q => absurd q c40) (fun _ => ?_)
      refine e_aload_n (pc := 114) C dX12_journeys_114 0 rfl rfl ?_
      refine e_bipush (v := (100 : Int32)) (pc := 115) C dX12_journeys_115 (by decide) ?_
      obtain ⟨t41, hf⟩ := ck_e hf
      obtain ⟨r44, h42, y43, hf⟩ := cb_e hf
      refine e_callVi (pc := 117) (st := []) 12 C (ct_X12_draws y43) dX12_journeys_117 (by decide) t41 g2204 g2206 g140 g157 g2207 hd_X12_draws rfl ⟨Nat.le_of_ble_eq_true rfl, Nat.le_of_ble_eq_true rfl⟩ ⟨Nat.le_of_ble_eq_true rfl, Nat.le_of_ble_eq_true rfl⟩ rfl (Nat.le_of_ble_eq_true rfl) ?_
      refine e_iload_n (pc := 120) C dX12_journeys_120 3 rfl rfl ?_
      obtain ⟨j_154, ej_154, hf⟩ := nn_e hf
      have W_154 : ∀ (h_154 : AH), j_154 h_154 = some y → EE G p l e ({ frames := 6, cells := 0, slots := 0, locals := 137 } : Room) s m args below meth c (some (.int y.1), y.2) 0 0 154 [(0, .ref v0), (1, .int v1), (2, .int v2), (3, .int v3), (4, .int v4), (5, .int v5), (7, .int v7), (8, .int v8), (9, .int v9), (10, .int v10)] [] h_154 0 0 := by
        intro h_154 hf
        rw [ej_154] at hf
        refine e_iload (pc := 154) C dX12_journeys_154 8 rfl ?_
        refine e_aload_n (pc := 156) C dX12_journeys_156 0 rfl rfl ?_
        obtain ⟨t45, hf⟩ := ck_e hf
        obtain ⟨r48, h46, y47, hf⟩ := cb_e hf
        refine e_callVi (pc := 157) (st := [.int v9]) 12 C (ct_X12_mileGoes y47) dX12_journeys_157 (by decide) t45 g1948 g1950 g103 g157 g1951 hd_X12_mileGoes rfl ⟨Nat.le_of_ble_eq_true rfl, Nat.le_of_ble_eq_true rfl⟩ ⟨Nat.le_of_ble_eq_true rfl, Nat.le_of_ble_eq_true rfl⟩ rfl (Nat.le_of_ble_eq_true rfl) ?_
        refine e_iadd (pc := 160) C dX12_journeys_160 ?_
        obtain ⟨x49, ex49, hf⟩ := nn_e hf
        refine e_topi ex49 ?_
        refine e_istore (pc := 161) (lv2 := [(9, .int x49), (0, .ref v0), (1, .int v1), (2, .int v2), (3, .int v3), (4, .int v4), (5, .int v5), (7, .int v7), (8, .int v8), (10, .int v10)]) C hm dX12_journeys_161 (by decide) rfl ?_
        obtain ⟨x50, ex50, hf⟩ := nn_e hf
        refine e_iinc (pc := 163) (v := x50) (lv2 := [(10, .int x50), (9, .int x49), (0, .ref v0), (1, .int v1), (2, .int v2), (3, .int v3), (4, .int v4), (5, .int v5), (7, .int v7), (8, .int v8)]) C hm dX12_journeys_163 9 rfl (by rw [ex50]; rfl) (by decide) rfl ?_
        refine e_goto (pc := 166) (tgt := 108) C dX12_journeys_166 (by decide) ?_
        refine e_lv (lv2 := [(0, .ref v0), (1, .int v1), (2, .int v2), (3, .int v3), (4, .int v4), (5, .int v5), (7, .int v7), (8, .int v8), (9, .int x49), (10, .int x50)]) [2, 3, 4, 5, 6, 7, 8, 9, 1, 0] rfl ?_
        exact ih_108 x49 x50 h46 hf
      rcases it_e hf with ⟨c51, hf⟩ | ⟨c51, hf⟩
      · refine e_icmp_ge (pc := 121) (tgt := 154) C dX12_journeys_121 (by decide) (fun _ => ?_) (fun q => absurd c51 q)
        exact W_154 h42 hf
      · refine e_icmp_ge (pc := 121) (tgt := 154) C dX12_journeys_121 (by decide) (fun q => absurd q c51) (fun _ => ?_)
        refine e_aload_n (pc := 124) C dX12_journeys_124 0 rfl rfl ?_
        obtain ⟨t52, hf⟩ := ck_e hf
        obtain ⟨r55, h53, y54, hf⟩ := cb_e hf
        refine e_callVi (pc := 125) (st := []) 12 C (ct_X12_ridersMany y54) dX12_journeys_125 (by decide) t52 g2212 g2214 g141 g157 g2215 hd_X12_ridersMany rfl ⟨Nat.le_of_ble_eq_true rfl, Nat.le_of_ble_eq_true rfl⟩ ⟨Nat.le_of_ble_eq_true rfl, Nat.le_of_ble_eq_true rfl⟩ rfl (Nat.le_of_ble_eq_true rfl) ?_
        rcases it_e hf with ⟨c56, hf⟩ | ⟨c56, hf⟩
        · refine e_if_le (pc := 128) (tgt := 154) C dX12_journeys_128 (by decide) (fun _ => ?_) (fun q => absurd c56 q)
          exact W_154 h53 hf
        · refine e_if_le (pc := 128) (tgt := 154) C dX12_journeys_128 (by decide) (fun q => absurd q c56) (fun _ => ?_)
          refine e_aload_n (pc := 131) C dX12_journeys_131 0 rfl rfl ?_
          obtain ⟨t57, hf⟩ := ck_e hf
          refine e_getr (pc := 132) 12 1 C dX12_journeys_132 (by decide) (by decide) g1402 rfl t57 ?_
          obtain ⟨b58, eb58, hf⟩ := ob_e hf
          refine e_rf eb58 ?_
          refine e_bipush (v := (13 : Int32)) (pc := 135) C dX12_journeys_135 (by decide) ?_
          refine e_aload_n (pc := 137) C dX12_journeys_137 0 rfl rfl ?_
          refine e_aload_n (pc := 138) C dX12_journeys_138 0 rfl rfl ?_
          refine e_aload_n (pc := 139) C dX12_journeys_139 0 rfl rfl ?_
          refine e_aload_n (pc := 140) C dX12_journeys_140 0 rfl rfl ?_
          obtain ⟨r61, h59, y60, hf⟩ := cb_e hf
          refine e_callVi (pc := 141) (st := [.ref v0, .ref v0, .ref v0, .int (13 : Int32), .ref b58]) 12 C (ct_X12_ridersMany y60) dX12_journeys_141 (by decide) t57 g2212 g2214 g141 g157 g2215 hd_X12_ridersMany rfl ⟨Nat.le_of_ble_eq_true rfl, Nat.le_of_ble_eq_true rfl⟩ ⟨Nat.le_of_ble_eq_true rfl, Nat.le_of_ble_eq_true rfl⟩ rfl (Nat.le_of_ble_eq_true rfl) ?_
          obtain ⟨t62, hf⟩ := ck_e hf
          obtain ⟨r65, h63, y64, hf⟩ := cb_e hf
          refine e_callVi (pc := 144) (st := [.ref v0, .ref v0, .int (13 : Int32), .ref b58]) 12 C (ct_X12_draws y64) dX12_journeys_144 (by decide) t62 g2204 g2206 g140 g157 g2207 hd_X12_draws rfl ⟨Nat.le_of_ble_eq_true rfl, Nat.le_of_ble_eq_true rfl⟩ ⟨Nat.le_of_ble_eq_true rfl, Nat.le_of_ble_eq_true rfl⟩ rfl (Nat.le_of_ble_eq_true rfl) ?_
          obtain ⟨t66, hf⟩ := ck_e hf
          obtain ⟨r69, h67, y68, hf⟩ := cb_e hf
          refine e_callVi (pc := 147) (st := [.ref v0, .int (13 : Int32), .ref b58]) 12 C (ct_X12_riderOf y68) dX12_journeys_147 (by decide) t66 g2216 g2218 g142 g157 g2219 hd_X12_riderOf rfl ⟨Nat.le_of_ble_eq_true rfl, Nat.le_of_ble_eq_true rfl⟩ ⟨Nat.le_of_ble_eq_true rfl, Nat.le_of_ble_eq_true rfl⟩ rfl (Nat.le_of_ble_eq_true rfl) ?_
          obtain ⟨t70, hf⟩ := ck_e hf
          obtain ⟨r73, h71, y72, hf⟩ := cb_e hf
          refine e_callVi (pc := 150) (st := [.int (13 : Int32), .ref b58]) 12 C (ct_X12_wantOf y72) dX12_journeys_150 (by decide) t70 g1870 g1872 g91 g157 g1873 hd_X12_wantOf rfl ⟨Nat.le_of_ble_eq_true rfl, Nat.le_of_ble_eq_true rfl⟩ ⟨Nat.le_of_ble_eq_true rfl, Nat.le_of_ble_eq_true rfl⟩ rfl (Nat.le_of_ble_eq_true rfl) ?_
          obtain ⟨q74, hf⟩ := ck_e hf
          obtain ⟨n75, tn75, in75⟩ := ix_e q74
          refine e_iast (pc := 153) C dX12_journeys_153 tn75 in75 ?_
          obtain ⟨h76, eh76, hf⟩ := nn_e hf
          refine e_hp eh76 ?_
          have uh76 : m_t h76 = m_t h71 := by rw [eh76]; exact rfl
          exact W_154 h76 hf
set_option maxHeartbeats 4000000 in
set_option maxRecDepth 100000 in
theorem el_X12_journeys_87 {G : GG} {p : Program} {l : Launch} {e : Env} {s : State} {m : MethodId} {args : Array Value} {below : List Frame} {meth : Method} {c : Code} {y : Int32 × AH} (C : Cx G cX12_journeys RX12 p s m args meth c) (hm : c.maxLocals = 11) (hr : meth.sig.returnType = (some .int)) (hin : meth.name = yX12_journeys.name) {v0 : Nat} {v1 : Int32} {v2 : Int32} {v3 : Int32} {v4 : Int32} {v5 : Int32} {K_207 : Int32 → AH → Option (Int32 × AH)} (hK_207 : ∀ (w7 : Int32) (h : AH), K_207 w7 h = some y → EE G p l e ({ frames := 6, cells := 0, slots := 0, locals := 137 } : Room) s m args below meth c (some (.int y.1), y.2) 0 0 207 [(0, .ref v0), (5, .int v5), (7, .int w7)] [] h 0 0) :
    ∀ (n : Nat) (v6 : Int32) (v7 : Int32) (v8 : Int32) (h : AH), lq3 (F_X12_journeys_87 G v0 v1 v2 v3 v4 v5 K_207) n v6 v7 v8 h = some y → EE G p l e ({ frames := 6, cells := 0, slots := 0, locals := 137 } : Room) s m args below meth c (some (.int y.1), y.2) 0 0 87 [(0, .ref v0), (1, .int v1), (2, .int v2), (3, .int v3), (4, .int v4), (5, .int v5), (6, .int v6), (7, .int v7), (8, .int v8)] [] h 0 0 := by
  intro n
  induction n with
  | zero => intro v6 v7 v8 h hf; exact (no_e hf).elim
  | succ n ih_87 =>
    intro v6 v7 v8 h hf
    have hf : F_X12_journeys_87 G v0 v1 v2 v3 v4 v5 K_207 (lq3 (F_X12_journeys_87 G v0 v1 v2 v3 v4 v5 K_207) n) v6 v7 v8 h = some y := hf
    generalize lq3 (F_X12_journeys_87 G v0 v1 v2 v3 v4 v5 K_207) n = self_87 at hf ih_87
    unfold F_X12_journeys_87 at hf
    refine e_iload (pc := 87) C dX12_journeys_87 8 rfl ?_
    refine e_iload_n (pc := 89) C dX12_journeys_89 1 rfl rfl ?_
    rcases it_e hf with ⟨c34, hf⟩ | ⟨c34, hf⟩
    · refine e_icmp_ge (pc := 90) (tgt := 207) C dX12_journeys_90 (by decide) (fun _ => ?_) (fun q => absurd c34 q)
      refine e_lv (lv2 := [(0, .ref v0), (5, .int v5), (7, .int v7)]) [0, 5, 7] rfl ?_
      exact hK_207 v7 h hf
    · refine e_icmp_ge (pc := 90) (tgt := 207) C dX12_journeys_90 (by decide) (fun q => absurd q c34) (fun _ => ?_)
      refine e_aload_n (pc := 93) C dX12_journeys_93 0 rfl rfl ?_
      obtain ⟨t35, hf⟩ := ck_e hf
      refine e_getr (pc := 94) 12 1 C dX12_journeys_94 (by decide) (by decide) g1402 rfl t35 ?_
      obtain ⟨b36, eb36, hf⟩ := ob_e hf
      refine e_rf eb36 ?_
      refine e_bipush (v := (15 : Int32)) (pc := 97) C dX12_journeys_97 (by decide) ?_
      refine e_iload (pc := 99) C dX12_journeys_99 6 rfl ?_
      obtain ⟨q37, hf⟩ := ck_e hf
      obtain ⟨n38, tn38, in38⟩ := ix_e q37
      refine e_iast (pc := 101) C dX12_journeys_101 tn38 in38 ?_
      obtain ⟨h39, eh39, hf⟩ := nn_e hf
      refine e_hp eh39 ?_
      have uh39 : m_t h39 = m_t h := by rw [eh39]; exact rfl
      refine e_iconst (v := (0 : Int32)) (pc := 102) C dX12_journeys_102 (by decide) ?_
      refine e_istore (pc := 103) (lv2 := [(9, .int (0 : Int32)), (0, .ref v0), (1, .int v1), (2, .int v2), (3, .int v3), (4, .int v4), (5, .int v5), (6, .int v6), (7, .int v7), (8, .int v8)]) C hm dX12_journeys_103 (by decide) rfl ?_
      refine e_iconst (v := (0 : Int32)) (pc := 105) C dX12_journeys_105 (by decide) ?_
      refine e_istore (pc := 106) (lv2 := [(10, .int (0 : Int32)), (9, .int (0 : Int32)), (0, .ref v0), (1, .int v1), (2, .int v2), (3, .int v3), (4, .int v4), (5, .int v5), (6, .int v6), (7, .int v7), (8, .int v8)]) C hm dX12_journeys_106 (by decide) rfl ?_
      refine e_lv (lv2 := [(0, .ref v0), (1, .int v1), (2, .int v2), (3, .int v3), (4, .int v4), (5, .int v5), (7, .int v7), (8, .int v8), (9, .int (0 : Int32)), (10, .int (0 : Int32))]) [2, 3, 4, 5, 6, 7, 9, 10, 1, 0] rfl ?_
      refine el_X12_journeys_108 C hm hr hin (fun v9_169 h_169 hf => ?_) bN (0 : Int32) (0 : Int32) h39 hf
      refine e_iload (pc := 169) C dX12_journeys_169 6 rfl ?_
      refine e_iload (pc := 171) C dX12_journeys_171 4 rfl ?_
      obtain ⟨j_185, ej_185, hf⟩ := nn_e hf
      have W_185 : ∀ (s0_185 : Int32) (h_185 : AH), j_185 s0_185 h_185 = some y → EE G p l e ({ frames := 6, cells := 0, slots := 0, locals := 137 } : Room) s m args below meth c (some (.int y.1), y.2) 0 0 185 [(0, .ref v0), (1, .int v1), (2, .int v2), (3, .int v3), (4, .int v4), (5, .int v5), (8, .int v8)] [.int s0_185, .int v7] h_185 0 0 := by
        intro s0_185 h_185 hf
        rw [ej_185] at hf
        refine e_iadd (pc := 185) C dX12_journeys_185 ?_
        obtain ⟨x77, ex77, hf⟩ := nn_e hf
        refine e_topi ex77 ?_
        refine e_istore (pc := 186) (lv2 := [(7, .int x77), (0, .ref v0), (1, .int v1), (2, .int v2), (3, .int v3), (4, .int v4), (5, .int v5), (8, .int v8)]) C hm dX12_journeys_186 (by decide) rfl ?_
        refine e_aload_n (pc := 188) C dX12_journeys_188 1 rfl rfl ?_
        obtain ⟨t78, hf⟩ := ck_e hf
        refine e_getr (pc := 189) 12 1 C dX12_journeys_189 (by decide) (by decide) g1402 rfl t78 ?_
        obtain ⟨b79, eb79, hf⟩ := ob_e hf
        refine e_rf eb79 ?_
        refine e_bipush (v := (15 : Int32)) (pc := 192) C dX12_journeys_192 (by decide) ?_
        obtain ⟨q80, hf⟩ := ck_e hf
        obtain ⟨n81, tn81, in81⟩ := ix_e q80
        refine e_iald (pc := 194) C dX12_journeys_194 tn81 in81 ?_
        obtain ⟨x82, ex82, hf⟩ := nn_e hf
        refine e_topi ex82 ?_
        refine e_istore (pc := 195) (lv2 := [(6, .int x82), (7, .int x77), (0, .ref v0), (1, .int v1), (2, .int v2), (3, .int v3), (4, .int v4), (5, .int v5), (8, .int v8)]) C hm dX12_journeys_195 (by decide) rfl ?_
        refine e_aload_n (pc := 197) C dX12_journeys_197 2 rfl rfl ?_
        obtain ⟨h83, y84, hf⟩ := ob_e hf
        refine e_callVv (pc := 198) (st := []) 12 C (ct_X12_laysBack y84) dX12_journeys_198 (by decide) t78 g2044 g2046 g118 g157 g2047 hd_X12_laysBack rfl ⟨Nat.le_of_ble_eq_true rfl, Nat.le_of_ble_eq_true rfl⟩ ⟨Nat.le_of_ble_eq_true rfl, Nat.le_of_ble_eq_true rfl⟩ rfl (Nat.le_of_ble_eq_true rfl) ?_
        obtain ⟨x85, ex85, hf⟩ := nn_e hf
        refine e_iinc (pc := 201) (v := x85) (lv2 := [(8, .int x85), (6, .int x82), (7, .int x77), (0, .ref v0), (1, .int v1), (2, .int v2), (3, .int v3), (4, .int v4), (5, .int v5)]) C hm dX12_journeys_201 8 rfl (by rw [ex85]; rfl) (by decide) rfl ?_
        refine e_goto (pc := 204) (tgt := 87) C dX12_journeys_204 (by decide) ?_
        refine e_lv (lv2 := [(0, .ref v0), (1, .int v1), (2, .int v2), (3, .int v3), (4, .int v4), (5, .int v5), (6, .int x82), (7, .int x77), (8, .int x85)]) [3, 4, 5, 6, 7, 8, 1, 2, 0] rfl ?_
        exact ih_87 x82 x77 x85 h83 hf
      rcases it_e hf with ⟨c86, hf⟩ | ⟨c86, hf⟩
      · refine e_if_ne (pc := 173) (tgt := 181) C dX12_journeys_173 (by decide) (fun q => absurd c86 q) (fun _ => ?_)
        refine e_iload (pc := 176) C dX12_journeys_176 8 rfl ?_
        refine e_goto (pc := 178) (tgt := 185) C dX12_journeys_178 (by decide) ?_
        refine e_lv (lv2 := [(0, .ref v0), (1, .int v1), (2, .int v2), (3, .int v3), (4, .int v4), (5, .int v5), (8, .int v8)]) [0, 1, 2, 3, 4, 5, 7] rfl ?_
        exact W_185 v9_169 h_169 hf
      · refine e_if_ne (pc := 173) (tgt := 181) C dX12_journeys_173 (by decide) (fun _ => ?_) (fun q => absurd q c86)
        refine e_aload_n (pc := 181) C dX12_journeys_181 0 rfl rfl ?_
        obtain ⟨t87, hf⟩ := ck_e hf
        obtain ⟨r90, h88, y89, hf⟩ := cb_e hf
        refine e_callVi (pc := 182) (st := [.int v7]) 12 C (ct_X12_crossAll y89) dX12_journeys_182 (by decide) t87 g2220 g2222 g143 g157 g2223 hd_X12_crossAll rfl ⟨Nat.le_of_ble_eq_true rfl, Nat.le_of_ble_eq_true rfl⟩ ⟨Nat.le_of_ble_eq_true rfl, Nat.le_of_ble_eq_true rfl⟩ rfl (Nat.le_of_ble_eq_true rfl) ?_
        refine e_lv (lv2 := [(0, .ref v0), (1, .int v1), (2, .int v2), (3, .int v3), (4, .int v4), (5, .int v5), (8, .int v8)]) [0, 1, 2, 3, 4, 5, 7] rfl ?_
        exact W_185 r90 h88 hf
set_option maxHeartbeats 4000000 in
set_option maxRecDepth 100000 in
theorem ct_X12_journeys {G : GG} {l : Launch} {v0 : Nat} {v1 : Int32} {v2 : Int32} {v3 : Int32} {v4 : Int32} {h : AH} {y : Int32 × AH} (hf : f_X12_journeys G v0 v1 v2 v3 v4 h = some y) : Ct G l yX12_journeys cX12_journeys 11 (some .int) 6 137 0 0 [.ref v0, .int v1, .int v2, .int v3, .int v4] h (some (.int y.1), y.2) := by
  refine ct_of (by decide) (Nat.le_of_ble_eq_true rfl) ?_
  intro p e s m args below meth c C hm hr hin
  have C : Cx G cX12_journeys RX12 p s m args meth c := C
  refine e_lv (lv2 := [(0, .ref v0), (1, .int v1), (2, .int v2), (3, .int v3), (4, .int v4)]) [0, 1, 2, 3, 4] rfl ?_
  unfold f_X12_journeys at hf
  refine e_aload_n (pc := 0) C dX12_journeys_0 0 rfl rfl ?_
  obtain ⟨t1, hf⟩ := ck_e hf
  obtain ⟨r4, h2, y3, hf⟩ := cb_e hf
  refine e_callVi (pc := 1) (st := []) 12 C (ct_X12_isTrain y3) dX12_journeys_1 (by decide) t1 g1907 g1909 g96 g157 g1910 hd_X12_isTrain rfl ⟨Nat.le_of_ble_eq_true rfl, Nat.le_of_ble_eq_true rfl⟩ ⟨Nat.le_of_ble_eq_true rfl, Nat.le_of_ble_eq_true rfl⟩ rfl (Nat.le_of_ble_eq_true rfl) ?_
  rcases it_e hf with ⟨c5, hf⟩ | ⟨c5, hf⟩
  · refine e_if_eq (pc := 4) (tgt := 62) C dX12_journeys_4 (by decide) (fun _ => ?_) (fun q => absurd c5 q)
    refine e_iconst (v := (-1 : Int32)) (pc := 62) C dX12_journeys_62 (by decide) ?_
    obtain rfl := so_e hf
    exact e_iret (pc := 63) C hr dX12_journeys_63 (Nat.le_of_ble_eq_true rfl) (Nat.le_of_ble_eq_true rfl)
  · refine e_if_eq (pc := 4) (tgt := 62) C dX12_journeys_4 (by decide) (fun q => absurd q c5) (fun _ => ?_)
    refine e_iload_n (pc := 7) C dX12_journeys_7 1 rfl rfl ?_
    refine e_i2l (pc := 8) C dX12_journeys_8 ?_
    refine e_lconst (v := (1 : Int64)) (pc := 9) C dX12_journeys_9 (by decide) ?_
    refine e_ldc2 (pc := 10) C dX12_journeys_10 g2202 ?_
    obtain ⟨r8, h6, y7, hf⟩ := cb_e hf
    refine e_callSi (pc := 13) (st := []) C (ct_X12_in y7) dX12_journeys_13 g1737 g1738 g157 g1739 hd_X12_in rfl ⟨Nat.le_of_ble_eq_true rfl, Nat.le_of_ble_eq_true rfl⟩ ⟨Nat.le_of_ble_eq_true rfl, Nat.le_of_ble_eq_true rfl⟩ rfl (Nat.le_of_ble_eq_true rfl) ?_
    rcases it_e hf with ⟨c9, hf⟩ | ⟨c9, hf⟩
    · refine e_if_eq (pc := 16) (tgt := 62) C dX12_journeys_16 (by decide) (fun _ => ?_) (fun q => absurd c9 q)
      refine e_iconst (v := (-1 : Int32)) (pc := 62) C dX12_journeys_62 (by decide) ?_
      obtain rfl := so_e hf
      exact e_iret (pc := 63) C hr dX12_journeys_63 (Nat.le_of_ble_eq_true rfl) (Nat.le_of_ble_eq_true rfl)
    · refine e_if_eq (pc := 16) (tgt := 62) C dX12_journeys_16 (by decide) (fun q => absurd q c9) (fun _ => ?_)
      refine e_iload_n (pc := 19) C dX12_journeys_19 2 rfl rfl ?_
      refine e_i2l (pc := 20) C dX12_journeys_20 ?_
      refine e_lconst (v := (1 : Int64)) (pc := 21) C dX12_journeys_21 (by decide) ?_
      refine e_ldc2 (pc := 22) C dX12_journeys_22 g2113 ?_
      obtain ⟨r12, h10, y11, hf⟩ := cb_e hf
      refine e_callSi (pc := 25) (st := []) C (ct_X12_in y11) dX12_journeys_25 g1737 g1738 g157 g1739 hd_X12_in rfl ⟨Nat.le_of_ble_eq_true rfl, Nat.le_of_ble_eq_true rfl⟩ ⟨Nat.le_of_ble_eq_true rfl, Nat.le_of_ble_eq_true rfl⟩ rfl (Nat.le_of_ble_eq_true rfl) ?_
      rcases it_e hf with ⟨c13, hf⟩ | ⟨c13, hf⟩
      · refine e_if_eq (pc := 28) (tgt := 62) C dX12_journeys_28 (by decide) (fun _ => ?_) (fun q => absurd c13 q)
        refine e_iconst (v := (-1 : Int32)) (pc := 62) C dX12_journeys_62 (by decide) ?_
        obtain rfl := so_e hf
        exact e_iret (pc := 63) C hr dX12_journeys_63 (Nat.le_of_ble_eq_true rfl) (Nat.le_of_ble_eq_true rfl)
      · refine e_if_eq (pc := 28) (tgt := 62) C dX12_journeys_28 (by decide) (fun q => absurd q c13) (fun _ => ?_)
        refine e_iload_n (pc := 31) C dX12_journeys_31 2 rfl rfl ?_
        refine e_aload_n (pc := 32) C dX12_journeys_32 0 rfl rfl ?_
        obtain ⟨t14, hf⟩ := ck_e hf
        obtain ⟨r17, h15, y16, hf⟩ := cb_e hf
        refine e_callVi (pc := 33) (st := [.int v2]) 12 C (ct_X12_milesLeft y16) dX12_journeys_33 (by decide) t14 g1940 g1942 g101 g157 g1943 hd_X12_milesLeft rfl ⟨Nat.le_of_ble_eq_true rfl, Nat.le_of_ble_eq_true rfl⟩ ⟨Nat.le_of_ble_eq_true rfl, Nat.le_of_ble_eq_true rfl⟩ rfl (Nat.le_of_ble_eq_true rfl) ?_
        rcases it_e hf with ⟨c18, hf⟩ | ⟨c18, hf⟩
        · refine e_icmp_gt (pc := 36) (tgt := 62) C dX12_journeys_36 (by decide) (fun _ => ?_) (fun q => absurd c18 q)
          refine e_iconst (v := (-1 : Int32)) (pc := 62) C dX12_journeys_62 (by decide) ?_
          obtain rfl := so_e hf
          exact e_iret (pc := 63) C hr dX12_journeys_63 (Nat.le_of_ble_eq_true rfl) (Nat.le_of_ble_eq_true rfl)
        · refine e_icmp_gt (pc := 36) (tgt := 62) C dX12_journeys_36 (by decide) (fun q => absurd q c18) (fun _ => ?_)
          refine e_iload_n (pc := 39) C dX12_journeys_39 3 rfl rfl ?_
          refine e_i2l (pc := 40) C dX12_journeys_40 ?_
          refine e_lconst (v := (0 : Int64)) (pc := 41) C dX12_journeys_41 (by decide) ?_
          refine e_ldc2 (pc := 42) C dX12_journeys_42 g2203 ?_
          obtain ⟨r21, h19, y20, hf⟩ := cb_e hf
          refine e_callSi (pc := 45) (st := []) C (ct_X12_in y20) dX12_journeys_45 g1737 g1738 g157 g1739 hd_X12_in rfl ⟨Nat.le_of_ble_eq_true rfl, Nat.le_of_ble_eq_true rfl⟩ ⟨Nat.le_of_ble_eq_true rfl, Nat.le_of_ble_eq_true rfl⟩ rfl (Nat.le_of_ble_eq_true rfl) ?_
          rcases it_e hf with ⟨c22, hf⟩ | ⟨c22, hf⟩
          · refine e_if_eq (pc := 48) (tgt := 62) C dX12_journeys_48 (by decide) (fun _ => ?_) (fun q => absurd c22 q)
            refine e_iconst (v := (-1 : Int32)) (pc := 62) C dX12_journeys_62 (by decide) ?_
            obtain rfl := so_e hf
            exact e_iret (pc := 63) C hr dX12_journeys_63 (Nat.le_of_ble_eq_true rfl) (Nat.le_of_ble_eq_true rfl)
          · refine e_if_eq (pc := 48) (tgt := 62) C dX12_journeys_48 (by decide) (fun q => absurd q c22) (fun _ => ?_)
            refine e_iload (pc := 51) C dX12_journeys_51 4 rfl ?_
            refine e_i2l (pc := 53) C dX12_journeys_53 ?_
            refine e_lconst (v := (0 : Int64)) (pc := 54) C dX12_journeys_54 (by decide) ?_
            refine e_lconst (v := (1 : Int64)) (pc := 55) C dX12_journeys_55 (by decide) ?_
            obtain ⟨r25, h23, y24, hf⟩ := cb_e hf
            refine e_callSi (pc := 56) (st := []) C (ct_X12_in y24) dX12_journeys_56 g1737 g1738 g157 g1739 hd_X12_in rfl ⟨Nat.le_of_ble_eq_true rfl, Nat.le_of_ble_eq_true rfl⟩ ⟨Nat.le_of_ble_eq_true rfl, Nat.le_of_ble_eq_true rfl⟩ rfl (Nat.le_of_ble_eq_true rfl) ?_
            rcases it_e hf with ⟨c26, hf⟩ | ⟨c26, hf⟩
            · refine e_if_ne (pc := 59) (tgt := 64) C dX12_journeys_59 (by decide) (fun q => absurd c26 q) (fun _ => ?_)
              refine e_iconst (v := (-1 : Int32)) (pc := 62) C dX12_journeys_62 (by decide) ?_
              obtain rfl := so_e hf
              exact e_iret (pc := 63) C hr dX12_journeys_63 (Nat.le_of_ble_eq_true rfl) (Nat.le_of_ble_eq_true rfl)
            · refine e_if_ne (pc := 59) (tgt := 64) C dX12_journeys_59 (by decide) (fun _ => ?_) (fun q => absurd q c26)
              refine e_aload_n (pc := 64) C dX12_journeys_64 0 rfl rfl ?_
              obtain ⟨t27, hf⟩ := ck_e hf
              refine e_getr (pc := 65) 12 1 C dX12_journeys_65 (by decide) (by decide) g1402 rfl t27 ?_
              obtain ⟨b28, eb28, hf⟩ := ob_e hf
              refine e_rf eb28 ?_
              refine e_bipush (v := (15 : Int32)) (pc := 68) C dX12_journeys_68 (by decide) ?_
              obtain ⟨q29, hf⟩ := ck_e hf
              obtain ⟨n30, tn30, in30⟩ := ix_e q29
              refine e_iald (pc := 70) C dX12_journeys_70 tn30 in30 ?_
              obtain ⟨x31, ex31, hf⟩ := nn_e hf
              refine e_topi ex31 ?_
              refine e_istore (pc := 71) (lv2 := [(5, .int x31), (0, .ref v0), (1, .int v1), (2, .int v2), (3, .int v3), (4, .int v4)]) C hm dX12_journeys_71 (by decide) rfl ?_
              refine e_iload (pc := 73) C dX12_journeys_73 0 rfl ?_
              refine e_istore (pc := 75) (lv2 := [(6, .int x31), (5, .int x31), (0, .ref v0), (1, .int v1), (2, .int v2), (3, .int v3), (4, .int v4)]) C hm dX12_journeys_75 (by decide) rfl ?_
              refine e_iconst (v := (0 : Int32)) (pc := 77) C dX12_journeys_77 (by decide) ?_
              refine e_istore (pc := 78) (lv2 := [(7, .int (0 : Int32)), (6, .int x31), (5, .int x31), (0, .ref v0), (1, .int v1), (2, .int v2), (3, .int v3), (4, .int v4)]) C hm dX12_journeys_78 (by decide) rfl ?_
              refine e_aload_n (pc := 80) C dX12_journeys_80 3 rfl rfl ?_
              obtain ⟨h32, y33, hf⟩ := ob_e hf
              refine e_callVv (pc := 81) (st := []) 12 C (ct_X12_keepsAll y33) dX12_journeys_81 (by decide) t27 g2024 g2026 g113 g157 g2027 hd_X12_keepsAll rfl ⟨Nat.le_of_ble_eq_true rfl, Nat.le_of_ble_eq_true rfl⟩ ⟨Nat.le_of_ble_eq_true rfl, Nat.le_of_ble_eq_true rfl⟩ rfl (Nat.le_of_ble_eq_true rfl) ?_
              refine e_iconst (v := (0 : Int32)) (pc := 84) C dX12_journeys_84 (by decide) ?_
              refine e_istore (pc := 85) (lv2 := [(8, .int (0 : Int32)), (7, .int (0 : Int32)), (6, .int x31), (5, .int x31), (0, .ref v0), (1, .int v1), (2, .int v2), (3, .int v3), (4, .int v4)]) C hm dX12_journeys_85 (by decide) rfl ?_
              refine e_lv (lv2 := [(0, .ref v0), (1, .int v1), (2, .int v2), (3, .int v3), (4, .int v4), (5, .int x31), (6, .int x31), (7, .int (0 : Int32)), (8, .int (0 : Int32))]) [4, 5, 6, 7, 8, 3, 2, 1, 0] rfl ?_
              refine el_X12_journeys_87 C hm hr hin (fun v7_207 h_207 hf => ?_) bN x31 (0 : Int32) (0 : Int32) h32 hf
              refine e_aload_n (pc := 207) C dX12_journeys_207 0 rfl rfl ?_
              obtain ⟨t91, hf⟩ := ck_e hf
              refine e_getr (pc := 208) 12 1 C dX12_journeys_208 (by decide) (by decide) g1402 rfl t91 ?_
              obtain ⟨b92, eb92, hf⟩ := ob_e hf
              refine e_rf eb92 ?_
              refine e_bipush (v := (15 : Int32)) (pc := 211) C dX12_journeys_211 (by decide) ?_
              refine e_iload (pc := 213) C dX12_journeys_213 1 rfl ?_
              obtain ⟨q93, hf⟩ := ck_e hf
              obtain ⟨n94, tn94, in94⟩ := ix_e q93
              refine e_iast (pc := 215) C dX12_journeys_215 tn94 in94 ?_
              obtain ⟨h95, eh95, hf⟩ := nn_e hf
              refine e_hp eh95 ?_
              have uh95 : m_t h95 = m_t h_207 := by rw [eh95]; exact rfl
              refine e_iload (pc := 216) C dX12_journeys_216 2 rfl ?_
              obtain rfl := so_e hf
              exact e_iret (pc := 218) C hr dX12_journeys_218 (Nat.le_of_ble_eq_true rfl) (Nat.le_of_ble_eq_true rfl)
theorem dX12_ridersSet_0 : decode cX12_ridersSet 0 = .ok (.iconst 0, 1) := by decide +kernel
theorem dX12_ridersSet_1 : decode cX12_ridersSet 1 = .ok (.istore_n 1, 1) := by decide +kernel
theorem dX12_ridersSet_2 : decode cX12_ridersSet 2 = .ok (.iconst 0, 1) := by decide +kernel
theorem dX12_ridersSet_3 : decode cX12_ridersSet 3 = .ok (.istore_n 2, 1) := by decide +kernel
theorem dX12_ridersSet_4 : decode cX12_ridersSet 4 = .ok (.iload_n 2, 1) := by decide +kernel
theorem dX12_ridersSet_5 : decode cX12_ridersSet 5 = .ok (.aload_n 0, 1) := by decide +kernel
theorem dX12_ridersSet_6 : decode cX12_ridersSet 6 = .ok (.getfield 9, 3) := by decide +kernel
theorem dX12_ridersSet_9 : decode cX12_ridersSet 9 = .ok (.bipush 6, 2) := by decide +kernel
theorem dX12_ridersSet_11 : decode cX12_ridersSet 11 = .ok (.iaload, 1) := by decide +kernel
theorem dX12_ridersSet_12 : decode cX12_ridersSet 12 = .ok (.if_icmp .ge 20, 3) := by decide +kernel
theorem dX12_ridersSet_15 : decode cX12_ridersSet 15 = .ok (.iload_n 1, 1) := by decide +kernel
theorem dX12_ridersSet_16 : decode cX12_ridersSet 16 = .ok (.aload_n 0, 1) := by decide +kernel
theorem dX12_ridersSet_17 : decode cX12_ridersSet 17 = .ok (.getfield 37, 3) := by decide +kernel
theorem dX12_ridersSet_20 : decode cX12_ridersSet 20 = .ok (.iload_n 2, 1) := by decide +kernel
theorem dX12_ridersSet_21 : decode cX12_ridersSet 21 = .ok (.iaload, 1) := by decide +kernel
theorem dX12_ridersSet_22 : decode cX12_ridersSet 22 = .ok (.iload_n 2, 1) := by decide +kernel
theorem dX12_ridersSet_23 : decode cX12_ridersSet 23 = .ok (.ishl, 1) := by decide +kernel
theorem dX12_ridersSet_24 : decode cX12_ridersSet 24 = .ok (.ior, 1) := by decide +kernel
theorem dX12_ridersSet_25 : decode cX12_ridersSet 25 = .ok (.istore_n 1, 1) := by decide +kernel
theorem dX12_ridersSet_26 : decode cX12_ridersSet 26 = .ok (.iinc 2 1, 3) := by decide +kernel
theorem dX12_ridersSet_29 : decode cX12_ridersSet 29 = .ok (.goto (-25), 3) := by decide +kernel
theorem dX12_ridersSet_32 : decode cX12_ridersSet 32 = .ok (.iload_n 1, 1) := by decide +kernel
theorem dX12_ridersSet_33 : decode cX12_ridersSet 33 = .ok (.ireturn, 1) := by decide +kernel
def F_X12_ridersSet_4 (G : GG) (v0 : Nat) (self_4 : Int32 → Int32 → AH → Option (Int32 × AH)) (v1 : Int32) (v2 : Int32) (h : AH) : Option (Int32 × AH) :=
ck (m_t h v0 = .inl 12) <|
ob (m_r h v0 1) fun b2 =>
ck (ixb h b2 .int (6 : Int32) = true) <|
if (m_i h b2 (6 : Int32).toNatClampNeg) ≤ v2 then (some (v1, h)) else
ob (m_r h v0 10) fun b6 =>
ck (ixb h b6 .int v2 = true) <|
nn (v1 ||| ((m_i h b6 v2.toNatClampNeg) <<< (v2 &&& 31))) fun x9 =>
nn (v2 + (1 : Int32)) fun x10 =>
self_4 x9 x10 h
def f_X12_ridersSet (G : GG) (v0 : Nat) (h : AH) : Option (Int32 × AH) :=
lq2 (F_X12_ridersSet_4 G v0 ) bN (0 : Int32) (0 : Int32) h
set_option maxHeartbeats 4000000 in
set_option maxRecDepth 100000 in
theorem el_X12_ridersSet_4 {G : GG} {p : Program} {l : Launch} {e : Env} {s : State} {m : MethodId} {args : Array Value} {below : List Frame} {meth : Method} {c : Code} {y : Int32 × AH} (C : Cx G cX12_ridersSet RX12 p s m args meth c) (hm : c.maxLocals = 3) (hr : meth.sig.returnType = (some .int)) (hin : meth.name = yX12_ridersSet.name) {v0 : Nat}  :
    ∀ (n : Nat) (v1 : Int32) (v2 : Int32) (h : AH), lq2 (F_X12_ridersSet_4 G v0) n v1 v2 h = some y → EE G p l e ({ frames := 0, cells := 0, slots := 0, locals := 0 } : Room) s m args below meth c (some (.int y.1), y.2) 0 0 4 [(0, .ref v0), (1, .int v1), (2, .int v2)] [] h 0 0 := by
  intro n
  induction n with
  | zero => intro v1 v2 h hf; exact (no_e hf).elim
  | succ n ih_4 =>
    intro v1 v2 h hf
    have hf : F_X12_ridersSet_4 G v0 (lq2 (F_X12_ridersSet_4 G v0) n) v1 v2 h = some y := hf
    generalize lq2 (F_X12_ridersSet_4 G v0) n = self_4 at hf ih_4
    unfold F_X12_ridersSet_4 at hf
    refine e_iload_n (pc := 4) C dX12_ridersSet_4 2 rfl rfl ?_
    refine e_aload_n (pc := 5) C dX12_ridersSet_5 0 rfl rfl ?_
    obtain ⟨t1, hf⟩ := ck_e hf
    refine e_getr (pc := 6) 12 1 C dX12_ridersSet_6 (by decide) (by decide) g1402 rfl t1 ?_
    obtain ⟨b2, eb2, hf⟩ := ob_e hf
    refine e_rf eb2 ?_
    refine e_bipush (v := (6 : Int32)) (pc := 9) C dX12_ridersSet_9 (by decide) ?_
    obtain ⟨q3, hf⟩ := ck_e hf
    obtain ⟨n4, tn4, in4⟩ := ix_e q3
    refine e_iald (pc := 11) C dX12_ridersSet_11 tn4 in4 ?_
    rcases it_e hf with ⟨c5, hf⟩ | ⟨c5, hf⟩
    · refine e_icmp_ge (pc := 12) (tgt := 32) C dX12_ridersSet_12 (by decide) (fun _ => ?_) (fun q => absurd c5 q)
      refine e_iload_n (pc := 32) C dX12_ridersSet_32 1 rfl rfl ?_
      obtain rfl := so_e hf
      exact e_iret (pc := 33) C hr dX12_ridersSet_33 (Nat.le_of_ble_eq_true rfl) (Nat.le_of_ble_eq_true rfl)
    · refine e_icmp_ge (pc := 12) (tgt := 32) C dX12_ridersSet_12 (by decide) (fun q => absurd q c5) (fun _ => ?_)
      refine e_iload_n (pc := 15) C dX12_ridersSet_15 1 rfl rfl ?_
      refine e_aload_n (pc := 16) C dX12_ridersSet_16 0 rfl rfl ?_
      refine e_getr (pc := 17) 12 10 C dX12_ridersSet_17 (by decide) (by decide) g1411 rfl t1 ?_
      obtain ⟨b6, eb6, hf⟩ := ob_e hf
      refine e_rf eb6 ?_
      refine e_iload_n (pc := 20) C dX12_ridersSet_20 2 rfl rfl ?_
      obtain ⟨q7, hf⟩ := ck_e hf
      obtain ⟨n8, tn8, in8⟩ := ix_e q7
      refine e_iald (pc := 21) C dX12_ridersSet_21 tn8 in8 ?_
      refine e_iload_n (pc := 22) C dX12_ridersSet_22 2 rfl rfl ?_
      refine e_ishl (pc := 23) C dX12_ridersSet_23 ?_
      refine e_ior (pc := 24) C dX12_ridersSet_24 ?_
      obtain ⟨x9, ex9, hf⟩ := nn_e hf
      refine e_topi ex9 ?_
      refine e_istore_n (pc := 25) (lv2 := [(1, .int x9), (0, .ref v0), (2, .int v2)]) C hm dX12_ridersSet_25 rfl (by decide) rfl ?_
      obtain ⟨x10, ex10, hf⟩ := nn_e hf
      refine e_iinc (pc := 26) (v := x10) (lv2 := [(2, .int x10), (1, .int x9), (0, .ref v0)]) C hm dX12_ridersSet_26 2 rfl (by rw [ex10]; rfl) (by decide) rfl ?_
      refine e_goto (pc := 29) (tgt := 4) C dX12_ridersSet_29 (by decide) ?_
      refine e_lv (lv2 := [(0, .ref v0), (1, .int x9), (2, .int x10)]) [2, 1, 0] rfl ?_
      exact ih_4 x9 x10 h hf
set_option maxHeartbeats 4000000 in
set_option maxRecDepth 100000 in
theorem ct_X12_ridersSet {G : GG} {l : Launch} {v0 : Nat} {h : AH} {y : Int32 × AH} (hf : f_X12_ridersSet G v0 h = some y) : Ct G l yX12_ridersSet cX12_ridersSet 3 (some .int) 0 0 0 0 [.ref v0] h (some (.int y.1), y.2) := by
  refine ct_of (by decide) (Nat.le_of_ble_eq_true rfl) ?_
  intro p e s m args below meth c C hm hr hin
  have C : Cx G cX12_ridersSet RX12 p s m args meth c := C
  refine e_lv (lv2 := [(0, .ref v0)]) [0] rfl ?_
  unfold f_X12_ridersSet at hf
  refine e_iconst (v := (0 : Int32)) (pc := 0) C dX12_ridersSet_0 (by decide) ?_
  refine e_istore_n (pc := 1) (lv2 := [(1, .int (0 : Int32)), (0, .ref v0)]) C hm dX12_ridersSet_1 rfl (by decide) rfl ?_
  refine e_iconst (v := (0 : Int32)) (pc := 2) C dX12_ridersSet_2 (by decide) ?_
  refine e_istore_n (pc := 3) (lv2 := [(2, .int (0 : Int32)), (1, .int (0 : Int32)), (0, .ref v0)]) C hm dX12_ridersSet_3 rfl (by decide) rfl ?_
  refine e_lv (lv2 := [(0, .ref v0), (1, .int (0 : Int32)), (2, .int (0 : Int32))]) [2, 1, 0] rfl ?_
  exact el_X12_ridersSet_4 C hm hr hin bN (0 : Int32) (0 : Int32) h hf
theorem dX12_count_0 : decode cX12_count 0 = .ok (.iload_n 1, 1) := by decide +kernel
theorem dX12_count_1 : decode cX12_count 1 = .ok (.tableswitch 182 0 14 #[75, 83, 91, 98, 106, 114, 119, 127, 135, 140, 148, 156, 164, 169, 177], 75) := by decide +kernel
theorem dX12_count_76 : decode cX12_count 76 = .ok (.aload_n 0, 1) := by decide +kernel
theorem dX12_count_77 : decode cX12_count 77 = .ok (.getfield 9, 3) := by decide +kernel
theorem dX12_count_80 : decode cX12_count 80 = .ok (.bipush 11, 2) := by decide +kernel
theorem dX12_count_82 : decode cX12_count 82 = .ok (.iaload, 1) := by decide +kernel
theorem dX12_count_83 : decode cX12_count 83 = .ok (.ireturn, 1) := by decide +kernel
theorem dX12_count_84 : decode cX12_count 84 = .ok (.aload_n 0, 1) := by decide +kernel
theorem dX12_count_85 : decode cX12_count 85 = .ok (.getfield 9, 3) := by decide +kernel
theorem dX12_count_88 : decode cX12_count 88 = .ok (.bipush 12, 2) := by decide +kernel
theorem dX12_count_90 : decode cX12_count 90 = .ok (.iaload, 1) := by decide +kernel
theorem dX12_count_91 : decode cX12_count 91 = .ok (.ireturn, 1) := by decide +kernel
theorem dX12_count_92 : decode cX12_count 92 = .ok (.aload_n 0, 1) := by decide +kernel
theorem dX12_count_93 : decode cX12_count 93 = .ok (.getfield 9, 3) := by decide +kernel
theorem dX12_count_96 : decode cX12_count 96 = .ok (.iconst 3, 1) := by decide +kernel
theorem dX12_count_97 : decode cX12_count 97 = .ok (.iaload, 1) := by decide +kernel
theorem dX12_count_98 : decode cX12_count 98 = .ok (.ireturn, 1) := by decide +kernel
theorem dX12_count_99 : decode cX12_count 99 = .ok (.aload_n 0, 1) := by decide +kernel
theorem dX12_count_100 : decode cX12_count 100 = .ok (.getfield 9, 3) := by decide +kernel
theorem dX12_count_103 : decode cX12_count 103 = .ok (.bipush 13, 2) := by decide +kernel
theorem dX12_count_105 : decode cX12_count 105 = .ok (.iaload, 1) := by decide +kernel
theorem dX12_count_106 : decode cX12_count 106 = .ok (.ireturn, 1) := by decide +kernel
theorem dX12_count_107 : decode cX12_count 107 = .ok (.aload_n 0, 1) := by decide +kernel
theorem dX12_count_108 : decode cX12_count 108 = .ok (.getfield 9, 3) := by decide +kernel
theorem dX12_count_111 : decode cX12_count 111 = .ok (.bipush 6, 2) := by decide +kernel
theorem dX12_count_113 : decode cX12_count 113 = .ok (.iaload, 1) := by decide +kernel
theorem dX12_count_114 : decode cX12_count 114 = .ok (.ireturn, 1) := by decide +kernel
theorem dX12_count_115 : decode cX12_count 115 = .ok (.aload_n 0, 1) := by decide +kernel
theorem dX12_count_116 : decode cX12_count 116 = .ok (.invokevirtual 701, 3) := by decide +kernel
theorem dX12_count_119 : decode cX12_count 119 = .ok (.ireturn, 1) := by decide +kernel
theorem dX12_count_120 : decode cX12_count 120 = .ok (.aload_n 0, 1) := by decide +kernel
theorem dX12_count_121 : decode cX12_count 121 = .ok (.getfield 9, 3) := by decide +kernel
theorem dX12_count_124 : decode cX12_count 124 = .ok (.bipush 8, 2) := by decide +kernel
theorem dX12_count_126 : decode cX12_count 126 = .ok (.iaload, 1) := by decide +kernel
theorem dX12_count_127 : decode cX12_count 127 = .ok (.ireturn, 1) := by decide +kernel
theorem dX12_count_128 : decode cX12_count 128 = .ok (.aload_n 0, 1) := by decide +kernel
theorem dX12_count_129 : decode cX12_count 129 = .ok (.getfield 9, 3) := by decide +kernel
theorem dX12_count_132 : decode cX12_count 132 = .ok (.bipush 9, 2) := by decide +kernel
theorem dX12_count_134 : decode cX12_count 134 = .ok (.iaload, 1) := by decide +kernel
theorem dX12_count_135 : decode cX12_count 135 = .ok (.ireturn, 1) := by decide +kernel
theorem dX12_count_136 : decode cX12_count 136 = .ok (.aload_n 0, 1) := by decide +kernel
theorem dX12_count_137 : decode cX12_count 137 = .ok (.getfield 406, 3) := by decide +kernel
theorem dX12_count_140 : decode cX12_count 140 = .ok (.ireturn, 1) := by decide +kernel
theorem dX12_count_141 : decode cX12_count 141 = .ok (.aload_n 0, 1) := by decide +kernel
theorem dX12_count_142 : decode cX12_count 142 = .ok (.getfield 9, 3) := by decide +kernel
theorem dX12_count_145 : decode cX12_count 145 = .ok (.bipush 16, 2) := by decide +kernel
theorem dX12_count_147 : decode cX12_count 147 = .ok (.iaload, 1) := by decide +kernel
theorem dX12_count_148 : decode cX12_count 148 = .ok (.ireturn, 1) := by decide +kernel
theorem dX12_count_149 : decode cX12_count 149 = .ok (.aload_n 0, 1) := by decide +kernel
theorem dX12_count_150 : decode cX12_count 150 = .ok (.getfield 9, 3) := by decide +kernel
theorem dX12_count_153 : decode cX12_count 153 = .ok (.bipush 10, 2) := by decide +kernel
theorem dX12_count_155 : decode cX12_count 155 = .ok (.iaload, 1) := by decide +kernel
theorem dX12_count_156 : decode cX12_count 156 = .ok (.ireturn, 1) := by decide +kernel
theorem dX12_count_157 : decode cX12_count 157 = .ok (.aload_n 0, 1) := by decide +kernel
theorem dX12_count_158 : decode cX12_count 158 = .ok (.getfield 9, 3) := by decide +kernel
theorem dX12_count_161 : decode cX12_count 161 = .ok (.bipush 14, 2) := by decide +kernel
theorem dX12_count_163 : decode cX12_count 163 = .ok (.iaload, 1) := by decide +kernel
theorem dX12_count_164 : decode cX12_count 164 = .ok (.ireturn, 1) := by decide +kernel
theorem dX12_count_165 : decode cX12_count 165 = .ok (.aload_n 0, 1) := by decide +kernel
theorem dX12_count_166 : decode cX12_count 166 = .ok (.getfield 393, 3) := by decide +kernel
theorem dX12_count_169 : decode cX12_count 169 = .ok (.ireturn, 1) := by decide +kernel
theorem dX12_count_170 : decode cX12_count 170 = .ok (.aload_n 0, 1) := by decide +kernel
theorem dX12_count_171 : decode cX12_count 171 = .ok (.getfield 9, 3) := by decide +kernel
theorem dX12_count_174 : decode cX12_count 174 = .ok (.bipush 15, 2) := by decide +kernel
theorem dX12_count_176 : decode cX12_count 176 = .ok (.iaload, 1) := by decide +kernel
theorem dX12_count_177 : decode cX12_count 177 = .ok (.ireturn, 1) := by decide +kernel
theorem dX12_count_178 : decode cX12_count 178 = .ok (.aload_n 0, 1) := by decide +kernel
theorem dX12_count_179 : decode cX12_count 179 = .ok (.getfield 210, 3) := by decide +kernel
theorem dX12_count_182 : decode cX12_count 182 = .ok (.ireturn, 1) := by decide +kernel
theorem dX12_count_183 : decode cX12_count 183 = .ok (.iconst (-1), 1) := by decide +kernel
theorem dX12_count_184 : decode cX12_count 184 = .ok (.ireturn, 1) := by decide +kernel
def f_X12_count (G : GG) (v0 : Nat) (v1 : Int32) (h : AH) : Option (Int32 × AH) :=
if v1 = (0 : Int32) then (ck (m_t h v0 = .inl 12) <|
ob (m_r h v0 1) fun b3 =>
ck (ixb h b3 .int (11 : Int32) = true) <|
some (m_i h b3 (11 : Int32).toNatClampNeg, h)) else
if v1 = (1 : Int32) then (ck (m_t h v0 = .inl 12) <|
ob (m_r h v0 1) fun b8 =>
ck (ixb h b8 .int (12 : Int32) = true) <|
some (m_i h b8 (12 : Int32).toNatClampNeg, h)) else
if v1 = (2 : Int32) then (ck (m_t h v0 = .inl 12) <|
ob (m_r h v0 1) fun b13 =>
ck (ixb h b13 .int (3 : Int32) = true) <|
some (m_i h b13 (3 : Int32).toNatClampNeg, h)) else
if v1 = (3 : Int32) then (ck (m_t h v0 = .inl 12) <|
ob (m_r h v0 1) fun b18 =>
ck (ixb h b18 .int (13 : Int32) = true) <|
some (m_i h b18 (13 : Int32).toNatClampNeg, h)) else
if v1 = (4 : Int32) then (ck (m_t h v0 = .inl 12) <|
ob (m_r h v0 1) fun b23 =>
ck (ixb h b23 .int (6 : Int32) = true) <|
some (m_i h b23 (6 : Int32).toNatClampNeg, h)) else
if v1 = (5 : Int32) then (ck (m_t h v0 = .inl 12) <|
cb (f_X12_ridersSet G v0 h) fun r30 h28 =>
some (r30, h28)) else
if v1 = (6 : Int32) then (ck (m_t h v0 = .inl 12) <|
ob (m_r h v0 1) fun b33 =>
ck (ixb h b33 .int (8 : Int32) = true) <|
some (m_i h b33 (8 : Int32).toNatClampNeg, h)) else
if v1 = (7 : Int32) then (ck (m_t h v0 = .inl 12) <|
ob (m_r h v0 1) fun b38 =>
ck (ixb h b38 .int (9 : Int32) = true) <|
some (m_i h b38 (9 : Int32).toNatClampNeg, h)) else
if v1 = (8 : Int32) then (ck (m_t h v0 = .inl 12) <|
some (m_i h v0 36, h)) else
if v1 = (9 : Int32) then (ck (m_t h v0 = .inl 12) <|
ob (m_r h v0 1) fun b45 =>
ck (ixb h b45 .int (16 : Int32) = true) <|
some (m_i h b45 (16 : Int32).toNatClampNeg, h)) else
if v1 = (10 : Int32) then (ck (m_t h v0 = .inl 12) <|
ob (m_r h v0 1) fun b50 =>
ck (ixb h b50 .int (10 : Int32) = true) <|
some (m_i h b50 (10 : Int32).toNatClampNeg, h)) else
if v1 = (11 : Int32) then (ck (m_t h v0 = .inl 12) <|
ob (m_r h v0 1) fun b55 =>
ck (ixb h b55 .int (14 : Int32) = true) <|
some (m_i h b55 (14 : Int32).toNatClampNeg, h)) else
if v1 = (12 : Int32) then (ck (m_t h v0 = .inl 12) <|
some (m_i h v0 55, h)) else
if v1 = (13 : Int32) then (ck (m_t h v0 = .inl 12) <|
ob (m_r h v0 1) fun b62 =>
ck (ixb h b62 .int (15 : Int32) = true) <|
some (m_i h b62 (15 : Int32).toNatClampNeg, h)) else
if v1 = (14 : Int32) then (ck (m_t h v0 = .inl 12) <|
some (m_i h v0 32, h)) else
some ((-1 : Int32), h)
set_option maxHeartbeats 4000000 in
set_option maxRecDepth 100000 in
theorem ct_X12_count {G : GG} {l : Launch} {v0 : Nat} {v1 : Int32} {h : AH} {y : Int32 × AH} (hf : f_X12_count G v0 v1 h = some y) : Ct G l yX12_count cX12_count 2 (some .int) 1 22 0 0 [.ref v0, .int v1] h (some (.int y.1), y.2) := by
  refine ct_of (by decide) (Nat.le_of_ble_eq_true rfl) ?_
  intro p e s m args below meth c C hm hr hin
  have C : Cx G cX12_count RX12 p s m args meth c := C
  refine e_lv (lv2 := [(0, .ref v0), (1, .int v1)]) [0, 1] rfl ?_
  unfold f_X12_count at hf
  refine e_iload_n (pc := 0) C dX12_count_0 1 rfl rfl ?_
  rcases it_e hf with ⟨c1, hf⟩ | ⟨c1, hf⟩
  · refine e_tabK (pc := 1) (tgt := 76) (0 : Int32) c1 C dX12_count_1 (by decide) (by decide) rfl (by decide) ?_
    refine e_aload_n (pc := 76) C dX12_count_76 0 rfl rfl ?_
    obtain ⟨t2, hf⟩ := ck_e hf
    refine e_getr (pc := 77) 12 1 C dX12_count_77 (by decide) (by decide) g1402 rfl t2 ?_
    obtain ⟨b3, eb3, hf⟩ := ob_e hf
    refine e_rf eb3 ?_
    refine e_bipush (v := (11 : Int32)) (pc := 80) C dX12_count_80 (by decide) ?_
    obtain ⟨q4, hf⟩ := ck_e hf
    obtain ⟨n5, tn5, in5⟩ := ix_e q4
    refine e_iald (pc := 82) C dX12_count_82 tn5 in5 ?_
    obtain rfl := so_e hf
    exact e_iret (pc := 83) C hr dX12_count_83 (Nat.le_of_ble_eq_true rfl) (Nat.le_of_ble_eq_true rfl)
  rcases it_e hf with ⟨c6, hf⟩ | ⟨c6, hf⟩
  · refine e_tabK (pc := 1) (tgt := 84) (1 : Int32) c6 C dX12_count_1 (by decide) (by decide) rfl (by decide) ?_
    refine e_aload_n (pc := 84) C dX12_count_84 0 rfl rfl ?_
    obtain ⟨t7, hf⟩ := ck_e hf
    refine e_getr (pc := 85) 12 1 C dX12_count_85 (by decide) (by decide) g1402 rfl t7 ?_
    obtain ⟨b8, eb8, hf⟩ := ob_e hf
    refine e_rf eb8 ?_
    refine e_bipush (v := (12 : Int32)) (pc := 88) C dX12_count_88 (by decide) ?_
    obtain ⟨q9, hf⟩ := ck_e hf
    obtain ⟨n10, tn10, in10⟩ := ix_e q9
    refine e_iald (pc := 90) C dX12_count_90 tn10 in10 ?_
    obtain rfl := so_e hf
    exact e_iret (pc := 91) C hr dX12_count_91 (Nat.le_of_ble_eq_true rfl) (Nat.le_of_ble_eq_true rfl)
  rcases it_e hf with ⟨c11, hf⟩ | ⟨c11, hf⟩
  · refine e_tabK (pc := 1) (tgt := 92) (2 : Int32) c11 C dX12_count_1 (by decide) (by decide) rfl (by decide) ?_
    refine e_aload_n (pc := 92) C dX12_count_92 0 rfl rfl ?_
    obtain ⟨t12, hf⟩ := ck_e hf
    refine e_getr (pc := 93) 12 1 C dX12_count_93 (by decide) (by decide) g1402 rfl t12 ?_
    obtain ⟨b13, eb13, hf⟩ := ob_e hf
    refine e_rf eb13 ?_
    refine e_iconst (v := (3 : Int32)) (pc := 96) C dX12_count_96 (by decide) ?_
    obtain ⟨q14, hf⟩ := ck_e hf
    obtain ⟨n15, tn15, in15⟩ := ix_e q14
    refine e_iald (pc := 97) C dX12_count_97 tn15 in15 ?_
    obtain rfl := so_e hf
    exact e_iret (pc := 98) C hr dX12_count_98 (Nat.le_of_ble_eq_true rfl) (Nat.le_of_ble_eq_true rfl)
  rcases it_e hf with ⟨c16, hf⟩ | ⟨c16, hf⟩
  · refine e_tabK (pc := 1) (tgt := 99) (3 : Int32) c16 C dX12_count_1 (by decide) (by decide) rfl (by decide) ?_
    refine e_aload_n (pc := 99) C dX12_count_99 0 rfl rfl ?_
    obtain ⟨t17, hf⟩ := ck_e hf
    refine e_getr (pc := 100) 12 1 C dX12_count_100 (by decide) (by decide) g1402 rfl t17 ?_
    obtain ⟨b18, eb18, hf⟩ := ob_e hf
    refine e_rf eb18 ?_
    refine e_bipush (v := (13 : Int32)) (pc := 103) C dX12_count_103 (by decide) ?_
    obtain ⟨q19, hf⟩ := ck_e hf
    obtain ⟨n20, tn20, in20⟩ := ix_e q19
    refine e_iald (pc := 105) C dX12_count_105 tn20 in20 ?_
    obtain rfl := so_e hf
    exact e_iret (pc := 106) C hr dX12_count_106 (Nat.le_of_ble_eq_true rfl) (Nat.le_of_ble_eq_true rfl)
  rcases it_e hf with ⟨c21, hf⟩ | ⟨c21, hf⟩
  · refine e_tabK (pc := 1) (tgt := 107) (4 : Int32) c21 C dX12_count_1 (by decide) (by decide) rfl (by decide) ?_
    refine e_aload_n (pc := 107) C dX12_count_107 0 rfl rfl ?_
    obtain ⟨t22, hf⟩ := ck_e hf
    refine e_getr (pc := 108) 12 1 C dX12_count_108 (by decide) (by decide) g1402 rfl t22 ?_
    obtain ⟨b23, eb23, hf⟩ := ob_e hf
    refine e_rf eb23 ?_
    refine e_bipush (v := (6 : Int32)) (pc := 111) C dX12_count_111 (by decide) ?_
    obtain ⟨q24, hf⟩ := ck_e hf
    obtain ⟨n25, tn25, in25⟩ := ix_e q24
    refine e_iald (pc := 113) C dX12_count_113 tn25 in25 ?_
    obtain rfl := so_e hf
    exact e_iret (pc := 114) C hr dX12_count_114 (Nat.le_of_ble_eq_true rfl) (Nat.le_of_ble_eq_true rfl)
  rcases it_e hf with ⟨c26, hf⟩ | ⟨c26, hf⟩
  · refine e_tabK (pc := 1) (tgt := 115) (5 : Int32) c26 C dX12_count_1 (by decide) (by decide) rfl (by decide) ?_
    refine e_aload_n (pc := 115) C dX12_count_115 0 rfl rfl ?_
    obtain ⟨t27, hf⟩ := ck_e hf
    obtain ⟨r30, h28, y29, hf⟩ := cb_e hf
    refine e_callVi (pc := 116) (st := []) 12 C (ct_X12_ridersSet y29) dX12_count_116 (by decide) t27 g2228 g2230 g144 g157 g2231 hd_X12_ridersSet rfl ⟨Nat.le_of_ble_eq_true rfl, Nat.le_of_ble_eq_true rfl⟩ ⟨Nat.le_of_ble_eq_true rfl, Nat.le_of_ble_eq_true rfl⟩ rfl (Nat.le_of_ble_eq_true rfl) ?_
    obtain rfl := so_e hf
    exact e_iret (pc := 119) C hr dX12_count_119 (Nat.le_of_ble_eq_true rfl) (Nat.le_of_ble_eq_true rfl)
  rcases it_e hf with ⟨c31, hf⟩ | ⟨c31, hf⟩
  · refine e_tabK (pc := 1) (tgt := 120) (6 : Int32) c31 C dX12_count_1 (by decide) (by decide) rfl (by decide) ?_
    refine e_aload_n (pc := 120) C dX12_count_120 0 rfl rfl ?_
    obtain ⟨t32, hf⟩ := ck_e hf
    refine e_getr (pc := 121) 12 1 C dX12_count_121 (by decide) (by decide) g1402 rfl t32 ?_
    obtain ⟨b33, eb33, hf⟩ := ob_e hf
    refine e_rf eb33 ?_
    refine e_bipush (v := (8 : Int32)) (pc := 124) C dX12_count_124 (by decide) ?_
    obtain ⟨q34, hf⟩ := ck_e hf
    obtain ⟨n35, tn35, in35⟩ := ix_e q34
    refine e_iald (pc := 126) C dX12_count_126 tn35 in35 ?_
    obtain rfl := so_e hf
    exact e_iret (pc := 127) C hr dX12_count_127 (Nat.le_of_ble_eq_true rfl) (Nat.le_of_ble_eq_true rfl)
  rcases it_e hf with ⟨c36, hf⟩ | ⟨c36, hf⟩
  · refine e_tabK (pc := 1) (tgt := 128) (7 : Int32) c36 C dX12_count_1 (by decide) (by decide) rfl (by decide) ?_
    refine e_aload_n (pc := 128) C dX12_count_128 0 rfl rfl ?_
    obtain ⟨t37, hf⟩ := ck_e hf
    refine e_getr (pc := 129) 12 1 C dX12_count_129 (by decide) (by decide) g1402 rfl t37 ?_
    obtain ⟨b38, eb38, hf⟩ := ob_e hf
    refine e_rf eb38 ?_
    refine e_bipush (v := (9 : Int32)) (pc := 132) C dX12_count_132 (by decide) ?_
    obtain ⟨q39, hf⟩ := ck_e hf
    obtain ⟨n40, tn40, in40⟩ := ix_e q39
    refine e_iald (pc := 134) C dX12_count_134 tn40 in40 ?_
    obtain rfl := so_e hf
    exact e_iret (pc := 135) C hr dX12_count_135 (Nat.le_of_ble_eq_true rfl) (Nat.le_of_ble_eq_true rfl)
  rcases it_e hf with ⟨c41, hf⟩ | ⟨c41, hf⟩
  · refine e_tabK (pc := 1) (tgt := 136) (8 : Int32) c41 C dX12_count_1 (by decide) (by decide) rfl (by decide) ?_
    refine e_aload_n (pc := 136) C dX12_count_136 0 rfl rfl ?_
    obtain ⟨t42, hf⟩ := ck_e hf
    refine e_geti (pc := 137) 12 36 C dX12_count_137 (by decide) (by decide) g1437 rfl t42 ?_
    obtain rfl := so_e hf
    exact e_iret (pc := 140) C hr dX12_count_140 (Nat.le_of_ble_eq_true rfl) (Nat.le_of_ble_eq_true rfl)
  rcases it_e hf with ⟨c43, hf⟩ | ⟨c43, hf⟩
  · refine e_tabK (pc := 1) (tgt := 141) (9 : Int32) c43 C dX12_count_1 (by decide) (by decide) rfl (by decide) ?_
    refine e_aload_n (pc := 141) C dX12_count_141 0 rfl rfl ?_
    obtain ⟨t44, hf⟩ := ck_e hf
    refine e_getr (pc := 142) 12 1 C dX12_count_142 (by decide) (by decide) g1402 rfl t44 ?_
    obtain ⟨b45, eb45, hf⟩ := ob_e hf
    refine e_rf eb45 ?_
    refine e_bipush (v := (16 : Int32)) (pc := 145) C dX12_count_145 (by decide) ?_
    obtain ⟨q46, hf⟩ := ck_e hf
    obtain ⟨n47, tn47, in47⟩ := ix_e q46
    refine e_iald (pc := 147) C dX12_count_147 tn47 in47 ?_
    obtain rfl := so_e hf
    exact e_iret (pc := 148) C hr dX12_count_148 (Nat.le_of_ble_eq_true rfl) (Nat.le_of_ble_eq_true rfl)
  rcases it_e hf with ⟨c48, hf⟩ | ⟨c48, hf⟩
  · refine e_tabK (pc := 1) (tgt := 149) (10 : Int32) c48 C dX12_count_1 (by decide) (by decide) rfl (by decide) ?_
    refine e_aload_n (pc := 149) C dX12_count_149 0 rfl rfl ?_
    obtain ⟨t49, hf⟩ := ck_e hf
    refine e_getr (pc := 150) 12 1 C dX12_count_150 (by decide) (by decide) g1402 rfl t49 ?_
    obtain ⟨b50, eb50, hf⟩ := ob_e hf
    refine e_rf eb50 ?_
    refine e_bipush (v := (10 : Int32)) (pc := 153) C dX12_count_153 (by decide) ?_
    obtain ⟨q51, hf⟩ := ck_e hf
    obtain ⟨n52, tn52, in52⟩ := ix_e q51
    refine e_iald (pc := 155) C dX12_count_155 tn52 in52 ?_
    obtain rfl := so_e hf
    exact e_iret (pc := 156) C hr dX12_count_156 (Nat.le_of_ble_eq_true rfl) (Nat.le_of_ble_eq_true rfl)
  rcases it_e hf with ⟨c53, hf⟩ | ⟨c53, hf⟩
  · refine e_tabK (pc := 1) (tgt := 157) (11 : Int32) c53 C dX12_count_1 (by decide) (by decide) rfl (by decide) ?_
    refine e_aload_n (pc := 157) C dX12_count_157 0 rfl rfl ?_
    obtain ⟨t54, hf⟩ := ck_e hf
    refine e_getr (pc := 158) 12 1 C dX12_count_158 (by decide) (by decide) g1402 rfl t54 ?_
    obtain ⟨b55, eb55, hf⟩ := ob_e hf
    refine e_rf eb55 ?_
    refine e_bipush (v := (14 : Int32)) (pc := 161) C dX12_count_161 (by decide) ?_
    obtain ⟨q56, hf⟩ := ck_e hf
    obtain ⟨n57, tn57, in57⟩ := ix_e q56
    refine e_iald (pc := 163) C dX12_count_163 tn57 in57 ?_
    obtain rfl := so_e hf
    exact e_iret (pc := 164) C hr dX12_count_164 (Nat.le_of_ble_eq_true rfl) (Nat.le_of_ble_eq_true rfl)
  rcases it_e hf with ⟨c58, hf⟩ | ⟨c58, hf⟩
  · refine e_tabK (pc := 1) (tgt := 165) (12 : Int32) c58 C dX12_count_1 (by decide) (by decide) rfl (by decide) ?_
    refine e_aload_n (pc := 165) C dX12_count_165 0 rfl rfl ?_
    obtain ⟨t59, hf⟩ := ck_e hf
    refine e_geti (pc := 166) 12 55 C dX12_count_166 (by decide) (by decide) g1456 rfl t59 ?_
    obtain rfl := so_e hf
    exact e_iret (pc := 169) C hr dX12_count_169 (Nat.le_of_ble_eq_true rfl) (Nat.le_of_ble_eq_true rfl)
  rcases it_e hf with ⟨c60, hf⟩ | ⟨c60, hf⟩
  · refine e_tabK (pc := 1) (tgt := 170) (13 : Int32) c60 C dX12_count_1 (by decide) (by decide) rfl (by decide) ?_
    refine e_aload_n (pc := 170) C dX12_count_170 0 rfl rfl ?_
    obtain ⟨t61, hf⟩ := ck_e hf
    refine e_getr (pc := 171) 12 1 C dX12_count_171 (by decide) (by decide) g1402 rfl t61 ?_
    obtain ⟨b62, eb62, hf⟩ := ob_e hf
    refine e_rf eb62 ?_
    refine e_bipush (v := (15 : Int32)) (pc := 174) C dX12_count_174 (by decide) ?_
    obtain ⟨q63, hf⟩ := ck_e hf
    obtain ⟨n64, tn64, in64⟩ := ix_e q63
    refine e_iald (pc := 176) C dX12_count_176 tn64 in64 ?_
    obtain rfl := so_e hf
    exact e_iret (pc := 177) C hr dX12_count_177 (Nat.le_of_ble_eq_true rfl) (Nat.le_of_ble_eq_true rfl)
  rcases it_e hf with ⟨c65, hf⟩ | ⟨c65, hf⟩
  · refine e_tabK (pc := 1) (tgt := 178) (14 : Int32) c65 C dX12_count_1 (by decide) (by decide) rfl (by decide) ?_
    refine e_aload_n (pc := 178) C dX12_count_178 0 rfl rfl ?_
    obtain ⟨t66, hf⟩ := ck_e hf
    refine e_geti (pc := 179) 12 32 C dX12_count_179 (by decide) (by decide) g1433 rfl t66 ?_
    obtain rfl := so_e hf
    exact e_iret (pc := 182) C hr dX12_count_182 (Nat.le_of_ble_eq_true rfl) (Nat.le_of_ble_eq_true rfl)
  refine e_tabOut (pc := 1) (tgt := 183) C dX12_count_1 (by have g0 := i_ne 0 (by decide) c1; have g1 := i_ne 1 (by decide) c6; have g2 := i_ne 2 (by decide) c11; have g3 := i_ne 3 (by decide) c16; have g4 := i_ne 4 (by decide) c21; have g5 := i_ne 5 (by decide) c26; have g6 := i_ne 6 (by decide) c31; have g7 := i_ne 7 (by decide) c36; have g8 := i_ne 8 (by decide) c41; have g9 := i_ne 9 (by decide) c43; have g10 := i_ne 10 (by decide) c48; have g11 := i_ne 11 (by decide) c53; have g12 := i_ne 12 (by decide) c58; have g13 := i_ne 13 (by decide) c60; have g14 := i_ne 14 (by decide) c65; omega) (by decide) ?_
  refine e_iconst (v := (-1 : Int32)) (pc := 183) C dX12_count_183 (by decide) ?_
  obtain rfl := so_e hf
  exact e_iret (pc := 184) C hr dX12_count_184 (Nat.le_of_ble_eq_true rfl) (Nat.le_of_ble_eq_true rfl)
theorem dX12_image_0 : decode cX12_image 0 = .ok (.iload_n 1, 1) := by decide +kernel
theorem dX12_image_1 : decode cX12_image 1 = .ok (.i2l, 1) := by decide +kernel
theorem dX12_image_2 : decode cX12_image 2 = .ok (.lconst 0, 1) := by decide +kernel
theorem dX12_image_3 : decode cX12_image 3 = .ok (.ldc2_w 540, 3) := by decide +kernel
theorem dX12_image_6 : decode cX12_image 6 = .ok (.invokestatic 206, 3) := by decide +kernel
theorem dX12_image_9 : decode cX12_image 9 = .ok (.ifCond .ne 5, 3) := by decide +kernel
theorem dX12_image_12 : decode cX12_image 12 = .ok (.iconst (-1), 1) := by decide +kernel
theorem dX12_image_13 : decode cX12_image 13 = .ok (.ireturn, 1) := by decide +kernel
theorem dX12_image_14 : decode cX12_image 14 = .ok (.aload_n 0, 1) := by decide +kernel
theorem dX12_image_15 : decode cX12_image 15 = .ok (.getfield 200, 3) := by decide +kernel
theorem dX12_image_18 : decode cX12_image 18 = .ok (.iload_n 1, 1) := by decide +kernel
theorem dX12_image_19 : decode cX12_image 19 = .ok (.iconst 1, 1) := by decide +kernel
theorem dX12_image_20 : decode cX12_image 20 = .ok (.bastore, 1) := by decide +kernel
theorem dX12_image_21 : decode cX12_image 21 = .ok (.aload_n 0, 1) := by decide +kernel
theorem dX12_image_22 : decode cX12_image 22 = .ok (.iload_n 1, 1) := by decide +kernel
theorem dX12_image_23 : decode cX12_image 23 = .ok (.iconst 0, 1) := by decide +kernel
theorem dX12_image_24 : decode cX12_image 24 = .ok (.invokevirtual 546, 3) := by decide +kernel
theorem dX12_image_27 : decode cX12_image 27 = .ok (.aload_n 0, 1) := by decide +kernel
theorem dX12_image_28 : decode cX12_image 28 = .ok (.getfield 9, 3) := by decide +kernel
theorem dX12_image_31 : decode cX12_image 31 = .ok (.bipush 10, 2) := by decide +kernel
theorem dX12_image_33 : decode cX12_image 33 = .ok (.iaload, 1) := by decide +kernel
theorem dX12_image_34 : decode cX12_image 34 = .ok (.ireturn, 1) := by decide +kernel
def f_X12_image (G : GG) (v0 : Nat) (v1 : Int32) (h : AH) : Option (Int32 × AH) :=
cb (f_X12_in G v1.toInt64 (0 : Int64) (3 : Int64) h) fun r3 h1 =>
if r3 = 0 then (some ((-1 : Int32), h1)) else
ck (m_t h1 v0 = .inl 12) <|
ob (m_r h1 v0 82) fun b6 =>
ck (ixb h1 b6 .boolean v1 = true) <|
nn (m_si h1 b6 v1.toNatClampNeg ((1 : Int32) &&& 1)) fun h9 =>
ob (f_X12_carriesAll G v0 v1 (0 : Int32) h9) fun h10 =>
ck (m_t h10 v0 = .inl 12) <|
ob (m_r h10 v0 1) fun b13 =>
ck (ixb h10 b13 .int (10 : Int32) = true) <|
some (m_i h10 b13 (10 : Int32).toNatClampNeg, h10)
set_option maxHeartbeats 4000000 in
set_option maxRecDepth 100000 in
theorem ct_X12_image {G : GG} {l : Launch} {v0 : Nat} {v1 : Int32} {h : AH} {y : Int32 × AH} (hf : f_X12_image G v0 v1 h = some y) : Ct G l yX12_image cX12_image 2 (some .int) 2 44 0 0 [.ref v0, .int v1] h (some (.int y.1), y.2) := by
  refine ct_of (by decide) (Nat.le_of_ble_eq_true rfl) ?_
  intro p e s m args below meth c C hm hr hin
  have C : Cx G cX12_image RX12 p s m args meth c := C
  refine e_lv (lv2 := [(0, .ref v0), (1, .int v1)]) [0, 1] rfl ?_
  unfold f_X12_image at hf
  refine e_iload_n (pc := 0) C dX12_image_0 1 rfl rfl ?_
  refine e_i2l (pc := 1) C dX12_image_1 ?_
  refine e_lconst (v := (0 : Int64)) (pc := 2) C dX12_image_2 (by decide) ?_
  refine e_ldc2 (pc := 3) C dX12_image_3 g2008 ?_
  obtain ⟨r3, h1, y2, hf⟩ := cb_e hf
  refine e_callSi (pc := 6) (st := []) C (ct_X12_in y2) dX12_image_6 g1737 g1738 g157 g1739 hd_X12_in rfl ⟨Nat.le_of_ble_eq_true rfl, Nat.le_of_ble_eq_true rfl⟩ ⟨Nat.le_of_ble_eq_true rfl, Nat.le_of_ble_eq_true rfl⟩ rfl (Nat.le_of_ble_eq_true rfl) ?_
  rcases it_e hf with ⟨c4, hf⟩ | ⟨c4, hf⟩
  · refine e_if_ne (pc := 9) (tgt := 14) C dX12_image_9 (by decide) (fun q => absurd c4 q) (fun _ => ?_)
    refine e_iconst (v := (-1 : Int32)) (pc := 12) C dX12_image_12 (by decide) ?_
    obtain rfl := so_e hf
    exact e_iret (pc := 13) C hr dX12_image_13 (Nat.le_of_ble_eq_true rfl) (Nat.le_of_ble_eq_true rfl)
  · refine e_if_ne (pc := 9) (tgt := 14) C dX12_image_9 (by decide) (fun _ => ?_) (fun q => absurd q c4)
    refine e_aload_n (pc := 14) C dX12_image_14 0 rfl rfl ?_
    obtain ⟨t5, hf⟩ := ck_e hf
    refine e_getr (pc := 15) 12 82 C dX12_image_15 (by decide) (by decide) g1483 rfl t5 ?_
    obtain ⟨b6, eb6, hf⟩ := ob_e hf
    refine e_rf eb6 ?_
    refine e_iload_n (pc := 18) C dX12_image_18 1 rfl rfl ?_
    refine e_iconst (v := (1 : Int32)) (pc := 19) C dX12_image_19 (by decide) ?_
    obtain ⟨q7, hf⟩ := ck_e hf
    obtain ⟨n8, tn8, in8⟩ := ix_e q7
    refine e_zast (pc := 20) C dX12_image_20 tn8 in8 ?_
    obtain ⟨h9, eh9, hf⟩ := nn_e hf
    refine e_hp eh9 ?_
    have uh9 : m_t h9 = m_t h1 := by rw [eh9]; exact rfl
    refine e_aload_n (pc := 21) C dX12_image_21 0 rfl rfl ?_
    refine e_iload_n (pc := 22) C dX12_image_22 1 rfl rfl ?_
    refine e_iconst (v := (0 : Int32)) (pc := 23) C dX12_image_23 (by decide) ?_
    obtain ⟨h10, y11, hf⟩ := ob_e hf
    refine e_callVv (pc := 24) (st := []) 12 C (ct_X12_carriesAll y11) dX12_image_24 (by decide) (e_mt uh9 t5) g2028 g2030 g114 g157 g2031 hd_X12_carriesAll rfl ⟨Nat.le_of_ble_eq_true rfl, Nat.le_of_ble_eq_true rfl⟩ ⟨Nat.le_of_ble_eq_true rfl, Nat.le_of_ble_eq_true rfl⟩ rfl (Nat.le_of_ble_eq_true rfl) ?_
    refine e_aload_n (pc := 27) C dX12_image_27 0 rfl rfl ?_
    obtain ⟨t12, hf⟩ := ck_e hf
    refine e_getr (pc := 28) 12 1 C dX12_image_28 (by decide) (by decide) g1402 rfl t12 ?_
    obtain ⟨b13, eb13, hf⟩ := ob_e hf
    refine e_rf eb13 ?_
    refine e_bipush (v := (10 : Int32)) (pc := 31) C dX12_image_31 (by decide) ?_
    obtain ⟨q14, hf⟩ := ck_e hf
    obtain ⟨n15, tn15, in15⟩ := ix_e q14
    refine e_iald (pc := 33) C dX12_image_33 tn15 in15 ?_
    obtain rfl := so_e hf
    exact e_iret (pc := 34) C hr dX12_image_34 (Nat.le_of_ble_eq_true rfl) (Nat.le_of_ble_eq_true rfl)
theorem dX12_back_0 : decode cX12_back 0 = .ok (.iload_n 1, 1) := by decide +kernel
theorem dX12_back_1 : decode cX12_back 1 = .ok (.i2l, 1) := by decide +kernel
theorem dX12_back_2 : decode cX12_back 2 = .ok (.lconst 0, 1) := by decide +kernel
theorem dX12_back_3 : decode cX12_back 3 = .ok (.ldc2_w 540, 3) := by decide +kernel
theorem dX12_back_6 : decode cX12_back 6 = .ok (.invokestatic 206, 3) := by decide +kernel
theorem dX12_back_9 : decode cX12_back 9 = .ok (.ifCond .eq 12, 3) := by decide +kernel
theorem dX12_back_12 : decode cX12_back 12 = .ok (.aload_n 0, 1) := by decide +kernel
theorem dX12_back_13 : decode cX12_back 13 = .ok (.getfield 200, 3) := by decide +kernel
theorem dX12_back_16 : decode cX12_back 16 = .ok (.iload_n 1, 1) := by decide +kernel
theorem dX12_back_17 : decode cX12_back 17 = .ok (.baload, 1) := by decide +kernel
theorem dX12_back_18 : decode cX12_back 18 = .ok (.ifCond .ne 5, 3) := by decide +kernel
theorem dX12_back_21 : decode cX12_back 21 = .ok (.iconst (-1), 1) := by decide +kernel
theorem dX12_back_22 : decode cX12_back 22 = .ok (.ireturn, 1) := by decide +kernel
theorem dX12_back_23 : decode cX12_back 23 = .ok (.aload_n 0, 1) := by decide +kernel
theorem dX12_back_24 : decode cX12_back 24 = .ok (.iload_n 1, 1) := by decide +kernel
theorem dX12_back_25 : decode cX12_back 25 = .ok (.iconst 1, 1) := by decide +kernel
theorem dX12_back_26 : decode cX12_back 26 = .ok (.invokevirtual 546, 3) := by decide +kernel
theorem dX12_back_29 : decode cX12_back 29 = .ok (.aload_n 0, 1) := by decide +kernel
theorem dX12_back_30 : decode cX12_back 30 = .ok (.getfield 9, 3) := by decide +kernel
theorem dX12_back_33 : decode cX12_back 33 = .ok (.bipush 10, 2) := by decide +kernel
theorem dX12_back_35 : decode cX12_back 35 = .ok (.iaload, 1) := by decide +kernel
theorem dX12_back_36 : decode cX12_back 36 = .ok (.ireturn, 1) := by decide +kernel
def f_X12_back (G : GG) (v0 : Nat) (v1 : Int32) (h : AH) : Option (Int32 × AH) :=
cb (f_X12_in G v1.toInt64 (0 : Int64) (3 : Int64) h) fun r3 h1 =>
if r3 = 0 then (some ((-1 : Int32), h1)) else
ck (m_t h1 v0 = .inl 12) <|
ob (m_r h1 v0 82) fun b6 =>
ck (ixb h1 b6 .boolean v1 = true) <|
if (m_i h1 b6 v1.toNatClampNeg) = 0 then (some ((-1 : Int32), h1)) else
ob (f_X12_carriesAll G v0 v1 (1 : Int32) h1) fun h10 =>
ck (m_t h10 v0 = .inl 12) <|
ob (m_r h10 v0 1) fun b13 =>
ck (ixb h10 b13 .int (10 : Int32) = true) <|
some (m_i h10 b13 (10 : Int32).toNatClampNeg, h10)
set_option maxHeartbeats 4000000 in
set_option maxRecDepth 100000 in
theorem ct_X12_back {G : GG} {l : Launch} {v0 : Nat} {v1 : Int32} {h : AH} {y : Int32 × AH} (hf : f_X12_back G v0 v1 h = some y) : Ct G l yX12_back cX12_back 2 (some .int) 2 44 0 0 [.ref v0, .int v1] h (some (.int y.1), y.2) := by
  refine ct_of (by decide) (Nat.le_of_ble_eq_true rfl) ?_
  intro p e s m args below meth c C hm hr hin
  have C : Cx G cX12_back RX12 p s m args meth c := C
  refine e_lv (lv2 := [(0, .ref v0), (1, .int v1)]) [0, 1] rfl ?_
  unfold f_X12_back at hf
  refine e_iload_n (pc := 0) C dX12_back_0 1 rfl rfl ?_
  refine e_i2l (pc := 1) C dX12_back_1 ?_
  refine e_lconst (v := (0 : Int64)) (pc := 2) C dX12_back_2 (by decide) ?_
  refine e_ldc2 (pc := 3) C dX12_back_3 g2008 ?_
  obtain ⟨r3, h1, y2, hf⟩ := cb_e hf
  refine e_callSi (pc := 6) (st := []) C (ct_X12_in y2) dX12_back_6 g1737 g1738 g157 g1739 hd_X12_in rfl ⟨Nat.le_of_ble_eq_true rfl, Nat.le_of_ble_eq_true rfl⟩ ⟨Nat.le_of_ble_eq_true rfl, Nat.le_of_ble_eq_true rfl⟩ rfl (Nat.le_of_ble_eq_true rfl) ?_
  rcases it_e hf with ⟨c4, hf⟩ | ⟨c4, hf⟩
  · refine e_if_eq (pc := 9) (tgt := 21) C dX12_back_9 (by decide) (fun _ => ?_) (fun q => absurd c4 q)
    refine e_iconst (v := (-1 : Int32)) (pc := 21) C dX12_back_21 (by decide) ?_
    obtain rfl := so_e hf
    exact e_iret (pc := 22) C hr dX12_back_22 (Nat.le_of_ble_eq_true rfl) (Nat.le_of_ble_eq_true rfl)
  · refine e_if_eq (pc := 9) (tgt := 21) C dX12_back_9 (by decide) (fun q => absurd q c4) (fun _ => ?_)
    refine e_aload_n (pc := 12) C dX12_back_12 0 rfl rfl ?_
    obtain ⟨t5, hf⟩ := ck_e hf
    refine e_getr (pc := 13) 12 82 C dX12_back_13 (by decide) (by decide) g1483 rfl t5 ?_
    obtain ⟨b6, eb6, hf⟩ := ob_e hf
    refine e_rf eb6 ?_
    refine e_iload_n (pc := 16) C dX12_back_16 1 rfl rfl ?_
    obtain ⟨q7, hf⟩ := ck_e hf
    obtain ⟨n8, tn8, in8⟩ := ix_e q7
    refine e_zald (pc := 17) C dX12_back_17 tn8 in8 ?_
    rcases it_e hf with ⟨c9, hf⟩ | ⟨c9, hf⟩
    · refine e_if_ne (pc := 18) (tgt := 23) C dX12_back_18 (by decide) (fun q => absurd c9 q) (fun _ => ?_)
      refine e_iconst (v := (-1 : Int32)) (pc := 21) C dX12_back_21 (by decide) ?_
      obtain rfl := so_e hf
      exact e_iret (pc := 22) C hr dX12_back_22 (Nat.le_of_ble_eq_true rfl) (Nat.le_of_ble_eq_true rfl)
    · refine e_if_ne (pc := 18) (tgt := 23) C dX12_back_18 (by decide) (fun _ => ?_) (fun q => absurd q c9)
      refine e_aload_n (pc := 23) C dX12_back_23 0 rfl rfl ?_
      refine e_iload_n (pc := 24) C dX12_back_24 1 rfl rfl ?_
      refine e_iconst (v := (1 : Int32)) (pc := 25) C dX12_back_25 (by decide) ?_
      obtain ⟨h10, y11, hf⟩ := ob_e hf
      refine e_callVv (pc := 26) (st := []) 12 C (ct_X12_carriesAll y11) dX12_back_26 (by decide) t5 g2028 g2030 g114 g157 g2031 hd_X12_carriesAll rfl ⟨Nat.le_of_ble_eq_true rfl, Nat.le_of_ble_eq_true rfl⟩ ⟨Nat.le_of_ble_eq_true rfl, Nat.le_of_ble_eq_true rfl⟩ rfl (Nat.le_of_ble_eq_true rfl) ?_
      refine e_aload_n (pc := 29) C dX12_back_29 0 rfl rfl ?_
      obtain ⟨t12, hf⟩ := ck_e hf
      refine e_getr (pc := 30) 12 1 C dX12_back_30 (by decide) (by decide) g1402 rfl t12 ?_
      obtain ⟨b13, eb13, hf⟩ := ob_e hf
      refine e_rf eb13 ?_
      refine e_bipush (v := (10 : Int32)) (pc := 33) C dX12_back_33 (by decide) ?_
      obtain ⟨q14, hf⟩ := ck_e hf
      obtain ⟨n15, tn15, in15⟩ := ix_e q14
      refine e_iald (pc := 35) C dX12_back_35 tn15 in15 ?_
      obtain rfl := so_e hf
      exact e_iret (pc := 36) C hr dX12_back_36 (Nat.le_of_ble_eq_true rfl) (Nat.le_of_ble_eq_true rfl)
