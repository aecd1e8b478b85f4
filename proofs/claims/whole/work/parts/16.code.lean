/-! Functions and walks, by a program of ours: X6_copyFrom X11_image X11_back X12_init -/
theorem dX6_copyFrom_0 : decode cX6_copyFrom 0 = .ok (.aload_n 0, 1) := by decide +kernel
theorem dX6_copyFrom_1 : decode cX6_copyFrom 1 = .ok (.aload_n 1, 1) := by decide +kernel
theorem dX6_copyFrom_2 : decode cX6_copyFrom 2 = .ok (.getfield 31, 3) := by decide +kernel
theorem dX6_copyFrom_5 : decode cX6_copyFrom 5 = .ok (.putfield 31, 3) := by decide +kernel
theorem dX6_copyFrom_8 : decode cX6_copyFrom 8 = .ok (.aload_n 0, 1) := by decide +kernel
theorem dX6_copyFrom_9 : decode cX6_copyFrom 9 = .ok (.aload_n 1, 1) := by decide +kernel
theorem dX6_copyFrom_10 : decode cX6_copyFrom 10 = .ok (.getfield 9, 3) := by decide +kernel
theorem dX6_copyFrom_13 : decode cX6_copyFrom 13 = .ok (.putfield 9, 3) := by decide +kernel
theorem dX6_copyFrom_16 : decode cX6_copyFrom 16 = .ok (.aload_n 0, 1) := by decide +kernel
theorem dX6_copyFrom_17 : decode cX6_copyFrom 17 = .ok (.aload_n 1, 1) := by decide +kernel
theorem dX6_copyFrom_18 : decode cX6_copyFrom 18 = .ok (.getfield 15, 3) := by decide +kernel
theorem dX6_copyFrom_21 : decode cX6_copyFrom 21 = .ok (.putfield 15, 3) := by decide +kernel
theorem dX6_copyFrom_24 : decode cX6_copyFrom 24 = .ok (.aload_n 0, 1) := by decide +kernel
theorem dX6_copyFrom_25 : decode cX6_copyFrom 25 = .ok (.aload_n 1, 1) := by decide +kernel
theorem dX6_copyFrom_26 : decode cX6_copyFrom 26 = .ok (.getfield 18, 3) := by decide +kernel
theorem dX6_copyFrom_29 : decode cX6_copyFrom 29 = .ok (.putfield 18, 3) := by decide +kernel
theorem dX6_copyFrom_32 : decode cX6_copyFrom 32 = .ok (.aload_n 0, 1) := by decide +kernel
theorem dX6_copyFrom_33 : decode cX6_copyFrom 33 = .ok (.aload_n 1, 1) := by decide +kernel
theorem dX6_copyFrom_34 : decode cX6_copyFrom 34 = .ok (.getfield 21, 3) := by decide +kernel
theorem dX6_copyFrom_37 : decode cX6_copyFrom 37 = .ok (.putfield 21, 3) := by decide +kernel
theorem dX6_copyFrom_40 : decode cX6_copyFrom 40 = .ok (.aload_n 1, 1) := by decide +kernel
theorem dX6_copyFrom_41 : decode cX6_copyFrom 41 = .ok (.getfield 24, 3) := by decide +kernel
theorem dX6_copyFrom_44 : decode cX6_copyFrom 44 = .ok (.iconst 0, 1) := by decide +kernel
theorem dX6_copyFrom_45 : decode cX6_copyFrom 45 = .ok (.aload_n 0, 1) := by decide +kernel
theorem dX6_copyFrom_46 : decode cX6_copyFrom 46 = .ok (.getfield 24, 3) := by decide +kernel
theorem dX6_copyFrom_49 : decode cX6_copyFrom 49 = .ok (.iconst 0, 1) := by decide +kernel
theorem dX6_copyFrom_50 : decode cX6_copyFrom 50 = .ok (.bipush 10, 2) := by decide +kernel
theorem dX6_copyFrom_52 : decode cX6_copyFrom 52 = .ok (.invokestatic 35, 3) := by decide +kernel
theorem dX6_copyFrom_55 : decode cX6_copyFrom 55 = .ok (.aload_n 1, 1) := by decide +kernel
theorem dX6_copyFrom_56 : decode cX6_copyFrom 56 = .ok (.getfield 28, 3) := by decide +kernel
theorem dX6_copyFrom_59 : decode cX6_copyFrom 59 = .ok (.iconst 0, 1) := by decide +kernel
theorem dX6_copyFrom_60 : decode cX6_copyFrom 60 = .ok (.aload_n 0, 1) := by decide +kernel
theorem dX6_copyFrom_61 : decode cX6_copyFrom 61 = .ok (.getfield 28, 3) := by decide +kernel
theorem dX6_copyFrom_64 : decode cX6_copyFrom 64 = .ok (.iconst 0, 1) := by decide +kernel
theorem dX6_copyFrom_65 : decode cX6_copyFrom 65 = .ok (.bipush 10, 2) := by decide +kernel
theorem dX6_copyFrom_67 : decode cX6_copyFrom 67 = .ok (.invokestatic 35, 3) := by decide +kernel
theorem dX6_copyFrom_70 : decode cX6_copyFrom 70 = .ok (.return_, 1) := by decide +kernel
noncomputable def f_X6_copyFrom (G : GG) (v0 : Nat) (v1 : Nat) (h : AH) : Option (AH) :=
ck (m_t h v1 = .inl 6) <|
ob (m_r h v1 0) fun b2 =>
ck (m_t h v0 = .inl 6) <|
nn (m_sr h v0 0 (some b2)) fun h4 =>
nn (m_si h4 v0 1 (m_i h4 v1 1)) fun h5 =>
nn (m_si h5 v0 2 (m_i h5 v1 2)) fun h6 =>
nn (m_si h6 v0 3 (m_i h6 v1 3)) fun h7 =>
nn (m_si h7 v0 4 (m_i h7 v1 4)) fun h8 =>
ob (m_r h8 v1 5) fun b9 =>
ob (m_r h8 v0 5) fun b10 =>
ob (alb h8 b9 .int) fun n11 =>
ob (alb h8 b10 .int) fun n12 =>
ck (¬ (0 : Int32) < 0 ∧ ¬ (0 : Int32) < 0 ∧ ¬ (10 : Int32) < 0 ∧ (0 : Int32).toNatClampNeg + (10 : Int32).toNatClampNeg ≤ n11 ∧ (0 : Int32).toNatClampNeg + (10 : Int32).toNatClampNeg ≤ n12) <|
nn (m_sa h8 b10 (va_cpy (m_i h8 b9) (m_i h8 b10) (0 : Int32).toNatClampNeg (0 : Int32).toNatClampNeg (10 : Int32).toNatClampNeg)) fun h14 =>
ob (m_r h14 v1 6) fun b15 =>
ob (m_r h14 v0 6) fun b16 =>
ob (alb h14 b15 .int) fun n17 =>
ob (alb h14 b16 .int) fun n18 =>
ck (¬ (0 : Int32) < 0 ∧ ¬ (0 : Int32) < 0 ∧ ¬ (10 : Int32) < 0 ∧ (0 : Int32).toNatClampNeg + (10 : Int32).toNatClampNeg ≤ n17 ∧ (0 : Int32).toNatClampNeg + (10 : Int32).toNatClampNeg ≤ n18) <|
nn (m_sa h14 b16 (va_cpy (m_i h14 b15) (m_i h14 b16) (0 : Int32).toNatClampNeg (0 : Int32).toNatClampNeg (10 : Int32).toNatClampNeg)) fun h20 =>
some h20
set_option maxHeartbeats 4000000 in
set_option maxRecDepth 100000 in
theorem ct_X6_copyFrom {G : GG} {l : Launch} {v0 : Nat} {v1 : Nat} {h : AH} {y : AH} (hf : f_X6_copyFrom G v0 v1 h = some y) : Ct G l yX6_copyFrom cX6_copyFrom 2 none 1 64 0 0 [.ref v0, .ref v1] h (none, y) := by
  refine ct_of (by decide) (Nat.le_of_ble_eq_true rfl) ?_
  intro p e s m args below meth c C hm hr hin
  have C : Cx G cX6_copyFrom RX6 p s m args meth c := C
  refine e_lv (lv2 := [(0, .ref v0), (1, .ref v1)]) [0, 1] rfl ?_
  unfold f_X6_copyFrom at hf
  refine e_aload_n (pc := 0) C dX6_copyFrom_0 0 rfl rfl ?_
  refine e_aload_n (pc := 1) C dX6_copyFrom_1 1 rfl rfl ?_
  obtain ⟨t1, hf⟩ := ck_e hf
  refine e_getr (pc := 2) 6 0 C dX6_copyFrom_2 (by decide) (by decide) g457 rfl t1 ?_
  obtain ⟨b2, eb2, hf⟩ := ob_e hf
  refine e_rf eb2 ?_
  obtain ⟨t3, hf⟩ := ck_e hf
  refine e_putr (pc := 5) (x := some b2) 6 0 C dX6_copyFrom_5 (by decide) (by decide) g457 rfl rfl rfl rfl t3 ?_
  obtain ⟨h4, eh4, hf⟩ := nn_e hf
  refine e_hp eh4 ?_
  have uh4 : m_t h4 = m_t h := by rw [eh4]; exact rfl
  refine e_aload_n (pc := 8) C dX6_copyFrom_8 0 rfl rfl ?_
  refine e_aload_n (pc := 9) C dX6_copyFrom_9 1 rfl rfl ?_
  refine e_geti (pc := 10) 6 1 C dX6_copyFrom_10 (by decide) (by decide) g460 rfl (e_mt uh4 t1) ?_
  refine e_puti (pc := 13) 6 1 C dX6_copyFrom_13 (by decide) (by decide) g460 rfl rfl rfl rfl (e_mt uh4 t3) ?_
  obtain ⟨h5, eh5, hf⟩ := nn_e hf
  refine e_hp eh5 ?_
  have uh5 : m_t h5 = m_t h := by rw [eh5]; exact uh4
  refine e_aload_n (pc := 16) C dX6_copyFrom_16 0 rfl rfl ?_
  refine e_aload_n (pc := 17) C dX6_copyFrom_17 1 rfl rfl ?_
  refine e_geti (pc := 18) 6 2 C dX6_copyFrom_18 (by decide) (by decide) g462 rfl (e_mt uh5 t1) ?_
  refine e_puti (pc := 21) 6 2 C dX6_copyFrom_21 (by decide) (by decide) g462 rfl rfl rfl rfl (e_mt uh5 t3) ?_
  obtain ⟨h6, eh6, hf⟩ := nn_e hf
  refine e_hp eh6 ?_
  have uh6 : m_t h6 = m_t h := by rw [eh6]; exact uh5
  refine e_aload_n (pc := 24) C dX6_copyFrom_24 0 rfl rfl ?_
  refine e_aload_n (pc := 25) C dX6_copyFrom_25 1 rfl rfl ?_
  refine e_geti (pc := 26) 6 3 C dX6_copyFrom_26 (by decide) (by decide) g464 rfl (e_mt uh6 t1) ?_
  refine e_puti (pc := 29) 6 3 C dX6_copyFrom_29 (by decide) (by decide) g464 rfl rfl rfl rfl (e_mt uh6 t3) ?_
  obtain ⟨h7, eh7, hf⟩ := nn_e hf
  refine e_hp eh7 ?_
  have uh7 : m_t h7 = m_t h := by rw [eh7]; exact uh6
  refine e_aload_n (pc := 32) C dX6_copyFrom_32 0 rfl rfl ?_
  refine e_aload_n (pc := 33) C dX6_copyFrom_33 1 rfl rfl ?_
  refine e_geti (pc := 34) 6 4 C dX6_copyFrom_34 (by decide) (by decide) g466 rfl (e_mt uh7 t1) ?_
  refine e_puti (pc := 37) 6 4 C dX6_copyFrom_37 (by decide) (by decide) g466 rfl rfl rfl rfl (e_mt uh7 t3) ?_
  obtain ⟨h8, eh8, hf⟩ := nn_e hf
  refine e_hp eh8 ?_
  have uh8 : m_t h8 = m_t h := by rw [eh8]; exact uh7
  refine e_aload_n (pc := 40) C dX6_copyFrom_40 1 rfl rfl ?_
  refine e_getr (pc := 41) 6 5 C dX6_copyFrom_41 (by decide) (by decide) g469 rfl (e_mt uh8 t1) ?_
  obtain ⟨b9, eb9, hf⟩ := ob_e hf
  refine e_rf eb9 ?_
  refine e_iconst (v := (0 : Int32)) (pc := 44) C dX6_copyFrom_44 (by decide) ?_
  refine e_aload_n (pc := 45) C dX6_copyFrom_45 0 rfl rfl ?_
  refine e_getr (pc := 46) 6 5 C dX6_copyFrom_46 (by decide) (by decide) g469 rfl (e_mt uh8 t3) ?_
  obtain ⟨b10, eb10, hf⟩ := ob_e hf
  refine e_rf eb10 ?_
  refine e_iconst (v := (0 : Int32)) (pc := 49) C dX6_copyFrom_49 (by decide) ?_
  refine e_bipush (v := (10 : Int32)) (pc := 50) C dX6_copyFrom_50 (by decide) ?_
  obtain ⟨n11, en11, hf⟩ := ob_e hf
  obtain ⟨n12, en12, hf⟩ := ob_e hf
  obtain ⟨q13, hf⟩ := ck_e hf
  refine e_copy (pc := 52) C dX6_copyFrom_52 g1391 g867 g866 g165 (al_e en11) (al_e en12) q13.1 q13.2.1 q13.2.2.1 q13.2.2.2.1 q13.2.2.2.2 (Nat.le_of_ble_eq_true rfl) (by decide) ?_
  obtain ⟨h14, eh14, hf⟩ := nn_e hf
  refine e_hp eh14 ?_
  have uh14 : m_t h14 = m_t h := by rw [eh14]; exact uh8
  refine e_aload_n (pc := 55) C dX6_copyFrom_55 1 rfl rfl ?_
  refine e_getr (pc := 56) 6 6 C dX6_copyFrom_56 (by decide) (by decide) g471 rfl (e_mt uh14 t1) ?_
  obtain ⟨b15, eb15, hf⟩ := ob_e hf
  refine e_rf eb15 ?_
  refine e_iconst (v := (0 : Int32)) (pc := 59) C dX6_copyFrom_59 (by decide) ?_
  refine e_aload_n (pc := 60) C dX6_copyFrom_60 0 rfl rfl ?_
  refine e_getr (pc := 61) 6 6 C dX6_copyFrom_61 (by decide) (by decide) g471 rfl (e_mt uh14 t3) ?_
  obtain ⟨b16, eb16, hf⟩ := ob_e hf
  refine e_rf eb16 ?_
  refine e_iconst (v := (0 : Int32)) (pc := 64) C dX6_copyFrom_64 (by decide) ?_
  refine e_bipush (v := (10 : Int32)) (pc := 65) C dX6_copyFrom_65 (by decide) ?_
  obtain ⟨n17, en17, hf⟩ := ob_e hf
  obtain ⟨n18, en18, hf⟩ := ob_e hf
  obtain ⟨q19, hf⟩ := ck_e hf
  refine e_copy (pc := 67) C dX6_copyFrom_67 g1391 g867 g866 g165 (al_e en17) (al_e en18) q19.1 q19.2.1 q19.2.2.1 q19.2.2.2.1 q19.2.2.2.2 (Nat.le_of_ble_eq_true rfl) (by decide) ?_
  obtain ⟨h20, eh20, hf⟩ := nn_e hf
  refine e_hp eh20 ?_
  have uh20 : m_t h20 = m_t h := by rw [eh20]; exact uh14
  obtain rfl := so_e hf
  exact e_vret (pc := 70) C hr dX6_copyFrom_70 (Nat.le_of_ble_eq_true rfl) (Nat.le_of_ble_eq_true rfl)
theorem dX11_image_0 : decode cX11_image 0 = .ok (.iload_n 1, 1) := by decide +kernel
theorem dX11_image_1 : decode cX11_image 1 = .ok (.ifCond .lt 8, 3) := by decide +kernel
theorem dX11_image_4 : decode cX11_image 4 = .ok (.iload_n 1, 1) := by decide +kernel
theorem dX11_image_5 : decode cX11_image 5 = .ok (.iconst 4, 1) := by decide +kernel
theorem dX11_image_6 : decode cX11_image 6 = .ok (.if_icmp .lt 5, 3) := by decide +kernel
theorem dX11_image_9 : decode cX11_image 9 = .ok (.iconst (-1), 1) := by decide +kernel
theorem dX11_image_10 : decode cX11_image 10 = .ok (.ireturn, 1) := by decide +kernel
theorem dX11_image_11 : decode cX11_image 11 = .ok (.aload_n 0, 1) := by decide +kernel
theorem dX11_image_12 : decode cX11_image 12 = .ok (.getfield 59, 3) := by decide +kernel
theorem dX11_image_15 : decode cX11_image 15 = .ok (.iload_n 1, 1) := by decide +kernel
theorem dX11_image_16 : decode cX11_image 16 = .ok (.aaload, 1) := by decide +kernel
theorem dX11_image_17 : decode cX11_image 17 = .ok (.ifnonnull 23, 3) := by decide +kernel
theorem dX11_image_20 : decode cX11_image 20 = .ok (.aload_n 0, 1) := by decide +kernel
theorem dX11_image_21 : decode cX11_image 21 = .ok (.getfield 59, 3) := by decide +kernel
theorem dX11_image_24 : decode cX11_image 24 = .ok (.iload_n 1, 1) := by decide +kernel
theorem dX11_image_25 : decode cX11_image 25 = .ok (.new 42, 3) := by decide +kernel
theorem dX11_image_28 : decode cX11_image 28 = .ok (.dup, 1) := by decide +kernel
theorem dX11_image_29 : decode cX11_image 29 = .ok (.aload_n 0, 1) := by decide +kernel
theorem dX11_image_30 : decode cX11_image 30 = .ok (.getfield 55, 3) := by decide +kernel
theorem dX11_image_33 : decode cX11_image 33 = .ok (.getfield 63, 3) := by decide +kernel
theorem dX11_image_36 : decode cX11_image 36 = .ok (.invokespecial 52, 3) := by decide +kernel
theorem dX11_image_39 : decode cX11_image 39 = .ok (.aastore, 1) := by decide +kernel
theorem dX11_image_40 : decode cX11_image 40 = .ok (.aload_n 0, 1) := by decide +kernel
theorem dX11_image_41 : decode cX11_image 41 = .ok (.getfield 59, 3) := by decide +kernel
theorem dX11_image_44 : decode cX11_image 44 = .ok (.iload_n 1, 1) := by decide +kernel
theorem dX11_image_45 : decode cX11_image 45 = .ok (.aaload, 1) := by decide +kernel
theorem dX11_image_46 : decode cX11_image 46 = .ok (.aload_n 0, 1) := by decide +kernel
theorem dX11_image_47 : decode cX11_image 47 = .ok (.getfield 55, 3) := by decide +kernel
theorem dX11_image_50 : decode cX11_image 50 = .ok (.invokevirtual 361, 3) := by decide +kernel
theorem dX11_image_53 : decode cX11_image 53 = .ok (.aload_n 0, 1) := by decide +kernel
theorem dX11_image_54 : decode cX11_image 54 = .ok (.getfield 55, 3) := by decide +kernel
theorem dX11_image_57 : decode cX11_image 57 = .ok (.getfield 63, 3) := by decide +kernel
theorem dX11_image_60 : decode cX11_image 60 = .ok (.getfield 358, 3) := by decide +kernel
theorem dX11_image_63 : decode cX11_image 63 = .ok (.ireturn, 1) := by decide +kernel
noncomputable def f_X11_image (G : GG) (v0 : Nat) (v1 : Int32) (h : AH) : Option (Int32 × AH) :=
if v1 < 0 then (some ((-1 : Int32), h)) else
if v1 < (4 : Int32) then (ck (m_t h v0 = .inl 11) <|
ob (m_r h v0 6) fun b4 =>
ck (ixb h b4 (.object RX6) v1 = true) <|
nn (fun (h_40 : AH) => (ck (m_t h_40 v0 = .inl 11) <|
ob (m_r h_40 v0 6) fun b8 =>
ck (ixb h_40 b8 (.object RX6) v1 = true) <|
ob (m_r h_40 b8 v1.toNatClampNeg) fun b11 =>
ob (m_r h_40 v0 5) fun b12 =>
ck (m_t h_40 b11 = .inl 6) <|
ob (f_X6_copyFrom G b11 b12 h_40) fun h14 =>
ck (m_t h14 v0 = .inl 11) <|
ob (m_r h14 v0 5) fun b17 =>
ck (m_t h14 b17 = .inl 6) <|
ob (m_r h14 b17 0) fun b19 =>
ck (m_t h14 b19 = .inl 0) <|
some (m_i h14 b19 4, h14))) fun j_40 =>
on (m_r h b4 v1.toNatClampNeg) (ob (m_r h v0 6) fun b23 =>
nn (m_n h) fun x24 =>
nn (m_new h (.inl 6)) fun h25 =>
ck (m_t h25 v0 = .inl 11) <|
ob (m_r h25 v0 5) fun b27 =>
ck (m_t h25 b27 = .inl 6) <|
ob (m_r h25 b27 0) fun b29 =>
ob (f_X6_init G x24 b29 h25) fun h30 =>
ck (m_t h30 x24 = .inl 6) <|
ck (ixb h30 b23 (.object RX6) v1 = true) <|
nn (m_sr h30 b23 v1.toNatClampNeg (some x24)) fun h35 =>
j_40 h35) fun b21 =>
j_40 h) else
some ((-1 : Int32), h)
set_option maxHeartbeats 4000000 in
set_option maxRecDepth 100000 in
theorem ct_X11_image {G : GG} {l : Launch} {v0 : Nat} {v1 : Int32} {h : AH} {y : Int32 × AH} (hf : f_X11_image G v0 v1 h = some y) : Ct G l yX11_image cX11_image 2 (some .int) 2 85 3 27 [.ref v0, .int v1] h (some (.int y.1), y.2) := by
  refine ct_of (by decide) (Nat.le_of_ble_eq_true rfl) ?_
  intro p e s m args below meth c C hm hr hin
  have C : Cx G cX11_image RX11 p s m args meth c := C
  refine e_lv (lv2 := [(0, .ref v0), (1, .int v1)]) [0, 1] rfl ?_
  unfold f_X11_image at hf
  refine e_iload_n (pc := 0) C dX11_image_0 1 rfl rfl ?_
  rcases it_e hf with ⟨c1, hf⟩ | ⟨c1, hf⟩
  · refine e_if_lt (pc := 1) (tgt := 9) C dX11_image_1 (by decide) (fun _ => ?_) (fun q => absurd c1 q)
    refine e_iconst (v := (-1 : Int32)) (pc := 9) C dX11_image_9 (by decide) ?_
    obtain rfl := so_e hf
    exact e_iret (pc := 10) C hr dX11_image_10 (Nat.le_of_ble_eq_true rfl) (Nat.le_of_ble_eq_true rfl)
  · refine e_if_lt (pc := 1) (tgt := 9) C dX11_image_1 (by decide) (fun q => absurd q c1) (fun _ => ?_)
    refine e_iload_n (pc := 4) C dX11_image_4 1 rfl rfl ?_
    refine e_iconst (v := (4 : Int32)) (pc := 5) C dX11_image_5 (by decide) ?_
    rcases it_e hf with ⟨c2, hf⟩ | ⟨c2, hf⟩
    · refine e_icmp_lt (pc := 6) (tgt := 11) C dX11_image_6 (by decide) (fun _ => ?_) (fun q => absurd c2 q)
      refine e_aload_n (pc := 11) C dX11_image_11 0 rfl rfl ?_
      obtain ⟨t3, hf⟩ := ck_e hf
      refine e_getr (pc := 12) 11 6 C dX11_image_12 (by decide) (by decide) g579 rfl t3 ?_
      obtain ⟨b4, eb4, hf⟩ := ob_e hf
      refine e_rf eb4 ?_
      refine e_iload_n (pc := 15) C dX11_image_15 1 rfl rfl ?_
      obtain ⟨q5, hf⟩ := ck_e hf
      obtain ⟨n6, tn6, in6⟩ := ix_e q5
      refine e_aald (pc := 16) 6 rfl C dX11_image_16 tn6 in6 ?_
      obtain ⟨j_40, ej_40, hf⟩ := nn_e hf
      have W_40 : ∀ (h_40 : AH), j_40 h_40 = some y → EE G p l e ({ frames := 2, cells := 3, slots := 27, locals := 85 } : Room) s m args below meth c (some (.int y.1), y.2) 3 27 40 [(0, .ref v0), (1, .int v1)] [] h_40 3 27 := by
        intro h_40 hf
        rw [ej_40] at hf
        refine e_aload_n (pc := 40) C dX11_image_40 0 rfl rfl ?_
        obtain ⟨t7, hf⟩ := ck_e hf
        refine e_getr (pc := 41) 11 6 C dX11_image_41 (by decide) (by decide) g579 rfl t7 ?_
        obtain ⟨b8, eb8, hf⟩ := ob_e hf
        refine e_rf eb8 ?_
        refine e_iload_n (pc := 44) C dX11_image_44 1 rfl rfl ?_
        obtain ⟨q9, hf⟩ := ck_e hf
        obtain ⟨n10, tn10, in10⟩ := ix_e q9
        refine e_aald (pc := 45) 6 rfl C dX11_image_45 tn10 in10 ?_
        obtain ⟨b11, eb11, hf⟩ := ob_e hf
        refine e_rf eb11 ?_
        refine e_aload_n (pc := 46) C dX11_image_46 0 rfl rfl ?_
        refine e_getr (pc := 47) 11 5 C dX11_image_47 (by decide) (by decide) g578 rfl t7 ?_
        obtain ⟨b12, eb12, hf⟩ := ob_e hf
        refine e_rf eb12 ?_
        obtain ⟨t13, hf⟩ := ck_e hf
        obtain ⟨h14, y15, hf⟩ := ob_e hf
        refine e_callVv (pc := 50) (st := []) 6 C (ct_X6_copyFrom y15) dX11_image_50 (by decide) t13 g1387 g1388 g1389 g150 g1390 hd_X6_copyFrom rfl ⟨Nat.le_of_ble_eq_true rfl, Nat.le_of_ble_eq_true rfl⟩ ⟨Nat.le_of_ble_eq_true rfl, Nat.le_of_ble_eq_true rfl⟩ rfl (Nat.le_of_ble_eq_true rfl) ?_
        refine e_aload_n (pc := 53) C dX11_image_53 0 rfl rfl ?_
        obtain ⟨t16, hf⟩ := ck_e hf
        refine e_getr (pc := 54) 11 5 C dX11_image_54 (by decide) (by decide) g578 rfl t16 ?_
        obtain ⟨b17, eb17, hf⟩ := ob_e hf
        refine e_rf eb17 ?_
        obtain ⟨t18, hf⟩ := ck_e hf
        refine e_getrN (pc := 57) 6 0 C dX11_image_57 (by decide) (by decide) g458 rfl t18 ?_
        obtain ⟨b19, eb19, hf⟩ := ob_e hf
        refine e_rf eb19 ?_
        obtain ⟨t20, hf⟩ := ck_e hf
        refine e_getiN (pc := 60) 0 4 C dX11_image_60 (by decide) (by decide) g415 rfl t20 ?_
        obtain rfl := so_e hf
        exact e_iret (pc := 63) C hr dX11_image_63 (Nat.le_of_ble_eq_true rfl) (Nat.le_of_ble_eq_true rfl)
      rcases on_e hf with ⟨c22, hf⟩ | ⟨b21, c22, hf⟩
      · refine e_nonnullN (pc := 17) c22 C dX11_image_17 ?_
        refine e_aload_n (pc := 20) C dX11_image_20 0 rfl rfl ?_
        refine e_getr (pc := 21) 11 6 C dX11_image_21 (by decide) (by decide) g579 rfl t3 ?_
        obtain ⟨b23, eb23, hf⟩ := ob_e hf
        refine e_rf eb23 ?_
        refine e_iload_n (pc := 24) C dX11_image_24 1 rfl rfl ?_
        refine e_new (pc := 25) (ci := 6) C dX11_image_25 (by decide) g255 g256 g150 (Nat.le_of_ble_eq_true rfl) (Nat.le_of_ble_eq_true rfl) ?_
        obtain ⟨x24, ex24, hf⟩ := nn_e hf
        refine e_topr ex24 ?_
        obtain ⟨h25, eh25, hf⟩ := nn_e hf
        refine e_hp eh25 ?_
        have tx24 : m_t h25 x24 = .inl 6 := by rw [eh25, ex24]; simp [m_t, m_new, m_n, va_up]
        refine e_dup (pc := 28) C dX11_image_28 rfl ?_
        refine e_aload_n (pc := 29) C dX11_image_29 0 rfl rfl ?_
        obtain ⟨t26, hf⟩ := ck_e hf
        refine e_getr (pc := 30) 11 5 C dX11_image_30 (by decide) (by decide) g578 rfl t26 ?_
        obtain ⟨b27, eb27, hf⟩ := ob_e hf
        refine e_rf eb27 ?_
        obtain ⟨t28, hf⟩ := ck_e hf
        refine e_getrN (pc := 33) 6 0 C dX11_image_33 (by decide) (by decide) g458 rfl t28 ?_
        obtain ⟨b29, eb29, hf⟩ := ob_e hf
        refine e_rf eb29 ?_
        obtain ⟨h30, y31, hf⟩ := ob_e hf
        refine e_callIv (pc := 36) (st := [.ref x24, .int v1, .ref b23]) C (ct_X6_init y31) dX11_image_36 g453 g454 g150 g455 rfl hd_X6_init rfl ⟨Nat.le_of_ble_eq_true rfl, Nat.le_of_ble_eq_true rfl⟩ ⟨Nat.le_of_ble_eq_true rfl, Nat.le_of_ble_eq_true rfl⟩ rfl (Nat.le_of_ble_eq_true rfl) ?_
        obtain ⟨t32, hf⟩ := ck_e hf
        obtain ⟨q33, hf⟩ := ck_e hf
        obtain ⟨n34, tn34, in34⟩ := ix_e q33
        refine e_aast (pc := 39) (ci := 6) 6 (by decide) rfl C dX11_image_39 tn34 t32 in34 ?_
        obtain ⟨h35, eh35, hf⟩ := nn_e hf
        refine e_hp eh35 ?_
        have uh35 : m_t h35 = m_t h30 := by rw [eh35]; exact rfl
        exact W_40 h35 hf
      · refine e_nonnullS (pc := 17) (tgt := 40) c22 C dX11_image_17 (by decide) ?_
        refine e_wd (ce2 := 3) (sl2 := 27) (Nat.le_of_ble_eq_true rfl) (Nat.le_of_ble_eq_true rfl) ?_
        exact W_40 h hf
    · refine e_icmp_lt (pc := 6) (tgt := 11) C dX11_image_6 (by decide) (fun q => absurd q c2) (fun _ => ?_)
      refine e_iconst (v := (-1 : Int32)) (pc := 9) C dX11_image_9 (by decide) ?_
      obtain rfl := so_e hf
      exact e_iret (pc := 10) C hr dX11_image_10 (Nat.le_of_ble_eq_true rfl) (Nat.le_of_ble_eq_true rfl)
theorem dX11_back_0 : decode cX11_back 0 = .ok (.iload_n 1, 1) := by decide +kernel
theorem dX11_back_1 : decode cX11_back 1 = .ok (.ifCond .lt 17, 3) := by decide +kernel
theorem dX11_back_4 : decode cX11_back 4 = .ok (.iload_n 1, 1) := by decide +kernel
theorem dX11_back_5 : decode cX11_back 5 = .ok (.iconst 4, 1) := by decide +kernel
theorem dX11_back_6 : decode cX11_back 6 = .ok (.if_icmp .ge 12, 3) := by decide +kernel
theorem dX11_back_9 : decode cX11_back 9 = .ok (.aload_n 0, 1) := by decide +kernel
theorem dX11_back_10 : decode cX11_back 10 = .ok (.getfield 59, 3) := by decide +kernel
theorem dX11_back_13 : decode cX11_back 13 = .ok (.iload_n 1, 1) := by decide +kernel
theorem dX11_back_14 : decode cX11_back 14 = .ok (.aaload, 1) := by decide +kernel
theorem dX11_back_15 : decode cX11_back 15 = .ok (.ifnonnull 5, 3) := by decide +kernel
theorem dX11_back_18 : decode cX11_back 18 = .ok (.iconst (-1), 1) := by decide +kernel
theorem dX11_back_19 : decode cX11_back 19 = .ok (.ireturn, 1) := by decide +kernel
theorem dX11_back_20 : decode cX11_back 20 = .ok (.aload_n 0, 1) := by decide +kernel
theorem dX11_back_21 : decode cX11_back 21 = .ok (.getfield 55, 3) := by decide +kernel
theorem dX11_back_24 : decode cX11_back 24 = .ok (.aload_n 0, 1) := by decide +kernel
theorem dX11_back_25 : decode cX11_back 25 = .ok (.getfield 59, 3) := by decide +kernel
theorem dX11_back_28 : decode cX11_back 28 = .ok (.iload_n 1, 1) := by decide +kernel
theorem dX11_back_29 : decode cX11_back 29 = .ok (.aaload, 1) := by decide +kernel
theorem dX11_back_30 : decode cX11_back 30 = .ok (.invokevirtual 361, 3) := by decide +kernel
theorem dX11_back_33 : decode cX11_back 33 = .ok (.aload_n 0, 1) := by decide +kernel
theorem dX11_back_34 : decode cX11_back 34 = .ok (.getfield 55, 3) := by decide +kernel
theorem dX11_back_37 : decode cX11_back 37 = .ok (.getfield 63, 3) := by decide +kernel
theorem dX11_back_40 : decode cX11_back 40 = .ok (.getfield 358, 3) := by decide +kernel
theorem dX11_back_43 : decode cX11_back 43 = .ok (.ireturn, 1) := by decide +kernel
noncomputable def f_X11_back (G : GG) (v0 : Nat) (v1 : Int32) (h : AH) : Option (Int32 × AH) :=
if v1 < 0 then (some ((-1 : Int32), h)) else
if (4 : Int32) ≤ v1 then (some ((-1 : Int32), h)) else
ck (m_t h v0 = .inl 11) <|
ob (m_r h v0 6) fun b4 =>
ck (ixb h b4 (.object RX6) v1 = true) <|
on (m_r h b4 v1.toNatClampNeg) (some ((-1 : Int32), h)) fun b7 =>
ob (m_r h v0 5) fun b9 =>
ob (m_r h v0 6) fun b10 =>
ck (ixb h b10 (.object RX6) v1 = true) <|
ob (m_r h b10 v1.toNatClampNeg) fun b13 =>
ck (m_t h b9 = .inl 6) <|
ob (f_X6_copyFrom G b9 b13 h) fun h15 =>
ck (m_t h15 v0 = .inl 11) <|
ob (m_r h15 v0 5) fun b18 =>
ck (m_t h15 b18 = .inl 6) <|
ob (m_r h15 b18 0) fun b20 =>
ck (m_t h15 b20 = .inl 0) <|
some (m_i h15 b20 4, h15)
set_option maxHeartbeats 4000000 in
set_option maxRecDepth 100000 in
theorem ct_X11_back {G : GG} {l : Launch} {v0 : Nat} {v1 : Int32} {h : AH} {y : Int32 × AH} (hf : f_X11_back G v0 v1 h = some y) : Ct G l yX11_back cX11_back 2 (some .int) 2 85 0 0 [.ref v0, .int v1] h (some (.int y.1), y.2) := by
  refine ct_of (by decide) (Nat.le_of_ble_eq_true rfl) ?_
  intro p e s m args below meth c C hm hr hin
  have C : Cx G cX11_back RX11 p s m args meth c := C
  refine e_lv (lv2 := [(0, .ref v0), (1, .int v1)]) [0, 1] rfl ?_
  unfold f_X11_back at hf
  refine e_iload_n (pc := 0) C dX11_back_0 1 rfl rfl ?_
  rcases it_e hf with ⟨c1, hf⟩ | ⟨c1, hf⟩
  · refine e_if_lt (pc := 1) (tgt := 18) C dX11_back_1 (by decide) (fun _ => ?_) (fun q => absurd c1 q)
    refine e_iconst (v := (-1 : Int32)) (pc := 18) C dX11_back_18 (by decide) ?_
    obtain rfl := so_e hf
    exact e_iret (pc := 19) C hr dX11_back_19 (Nat.le_of_ble_eq_true rfl) (Nat.le_of_ble_eq_true rfl)
  · refine e_if_lt (pc := 1) (tgt := 18) C dX11_back_1 (by decide) (fun q => absurd q c1) (fun _ => ?_)
    refine e_iload_n (pc := 4) C dX11_back_4 1 rfl rfl ?_
    refine e_iconst (v := (4 : Int32)) (pc := 5) C dX11_back_5 (by decide) ?_
    rcases it_e hf with ⟨c2, hf⟩ | ⟨c2, hf⟩
    · refine e_icmp_ge (pc := 6) (tgt := 18) C dX11_back_6 (by decide) (fun _ => ?_) (fun q => absurd c2 q)
      refine e_iconst (v := (-1 : Int32)) (pc := 18) C dX11_back_18 (by decide) ?_
      obtain rfl := so_e hf
      exact e_iret (pc := 19) C hr dX11_back_19 (Nat.le_of_ble_eq_true rfl) (Nat.le_of_ble_eq_true rfl)
    · refine e_icmp_ge (pc := 6) (tgt := 18) C dX11_back_6 (by decide) (fun q => absurd q c2) (fun _ => ?_)
      refine e_aload_n (pc := 9) C dX11_back_9 0 rfl rfl ?_
      obtain ⟨t3, hf⟩ := ck_e hf
      refine e_getr (pc := 10) 11 6 C dX11_back_10 (by decide) (by decide) g579 rfl t3 ?_
      obtain ⟨b4, eb4, hf⟩ := ob_e hf
      refine e_rf eb4 ?_
      refine e_iload_n (pc := 13) C dX11_back_13 1 rfl rfl ?_
      obtain ⟨q5, hf⟩ := ck_e hf
      obtain ⟨n6, tn6, in6⟩ := ix_e q5
      refine e_aald (pc := 14) 6 rfl C dX11_back_14 tn6 in6 ?_
      rcases on_e hf with ⟨c8, hf⟩ | ⟨b7, c8, hf⟩
      · refine e_nonnullN (pc := 15) c8 C dX11_back_15 ?_
        refine e_iconst (v := (-1 : Int32)) (pc := 18) C dX11_back_18 (by decide) ?_
        obtain rfl := so_e hf
        exact e_iret (pc := 19) C hr dX11_back_19 (Nat.le_of_ble_eq_true rfl) (Nat.le_of_ble_eq_true rfl)
      · refine e_nonnullS (pc := 15) (tgt := 20) c8 C dX11_back_15 (by decide) ?_
        refine e_aload_n (pc := 20) C dX11_back_20 0 rfl rfl ?_
        refine e_getr (pc := 21) 11 5 C dX11_back_21 (by decide) (by decide) g578 rfl t3 ?_
        obtain ⟨b9, eb9, hf⟩ := ob_e hf
        refine e_rf eb9 ?_
        refine e_aload_n (pc := 24) C dX11_back_24 0 rfl rfl ?_
        refine e_getr (pc := 25) 11 6 C dX11_back_25 (by decide) (by decide) g579 rfl t3 ?_
        obtain ⟨b10, eb10, hf⟩ := ob_e hf
        refine e_rf eb10 ?_
        refine e_iload_n (pc := 28) C dX11_back_28 1 rfl rfl ?_
        obtain ⟨q11, hf⟩ := ck_e hf
        obtain ⟨n12, tn12, in12⟩ := ix_e q11
        refine e_aald (pc := 29) 6 rfl C dX11_back_29 tn12 in12 ?_
        obtain ⟨b13, eb13, hf⟩ := ob_e hf
        refine e_rf eb13 ?_
        obtain ⟨t14, hf⟩ := ck_e hf
        obtain ⟨h15, y16, hf⟩ := ob_e hf
        refine e_callVv (pc := 30) (st := []) 6 C (ct_X6_copyFrom y16) dX11_back_30 (by decide) t14 g1387 g1388 g1389 g150 g1390 hd_X6_copyFrom rfl ⟨Nat.le_of_ble_eq_true rfl, Nat.le_of_ble_eq_true rfl⟩ ⟨Nat.le_of_ble_eq_true rfl, Nat.le_of_ble_eq_true rfl⟩ rfl (Nat.le_of_ble_eq_true rfl) ?_
        refine e_aload_n (pc := 33) C dX11_back_33 0 rfl rfl ?_
        obtain ⟨t17, hf⟩ := ck_e hf
        refine e_getr (pc := 34) 11 5 C dX11_back_34 (by decide) (by decide) g578 rfl t17 ?_
        obtain ⟨b18, eb18, hf⟩ := ob_e hf
        refine e_rf eb18 ?_
        obtain ⟨t19, hf⟩ := ck_e hf
        refine e_getrN (pc := 37) 6 0 C dX11_back_37 (by decide) (by decide) g458 rfl t19 ?_
        obtain ⟨b20, eb20, hf⟩ := ob_e hf
        refine e_rf eb20 ?_
        obtain ⟨t21, hf⟩ := ck_e hf
        refine e_getiN (pc := 40) 0 4 C dX11_back_40 (by decide) (by decide) g415 rfl t21 ?_
        obtain rfl := so_e hf
        exact e_iret (pc := 43) C hr dX11_back_43 (Nat.le_of_ble_eq_true rfl) (Nat.le_of_ble_eq_true rfl)
theorem dX12_init_0 : decode cX12_init 0 = .ok (.aload_n 0, 1) := by decide +kernel
theorem dX12_init_1 : decode cX12_init 1 = .ok (.invokespecial 3, 3) := by decide +kernel
theorem dX12_init_4 : decode cX12_init 4 = .ok (.aload_n 0, 1) := by decide +kernel
theorem dX12_init_5 : decode cX12_init 5 = .ok (.bipush 17, 2) := by decide +kernel
theorem dX12_init_7 : decode cX12_init 7 = .ok (.newarray .int, 2) := by decide +kernel
theorem dX12_init_9 : decode cX12_init 9 = .ok (.dup, 1) := by decide +kernel
theorem dX12_init_10 : decode cX12_init 10 = .ok (.iconst 0, 1) := by decide +kernel
theorem dX12_init_11 : decode cX12_init 11 = .ok (.iconst 0, 1) := by decide +kernel
theorem dX12_init_12 : decode cX12_init 12 = .ok (.iastore, 1) := by decide +kernel
theorem dX12_init_13 : decode cX12_init 13 = .ok (.dup, 1) := by decide +kernel
theorem dX12_init_14 : decode cX12_init 14 = .ok (.iconst 1, 1) := by decide +kernel
theorem dX12_init_15 : decode cX12_init 15 = .ok (.iconst 0, 1) := by decide +kernel
theorem dX12_init_16 : decode cX12_init 16 = .ok (.iastore, 1) := by decide +kernel
theorem dX12_init_17 : decode cX12_init 17 = .ok (.dup, 1) := by decide +kernel
theorem dX12_init_18 : decode cX12_init 18 = .ok (.iconst 2, 1) := by decide +kernel
theorem dX12_init_19 : decode cX12_init 19 = .ok (.iconst 0, 1) := by decide +kernel
theorem dX12_init_20 : decode cX12_init 20 = .ok (.iastore, 1) := by decide +kernel
theorem dX12_init_21 : decode cX12_init 21 = .ok (.dup, 1) := by decide +kernel
theorem dX12_init_22 : decode cX12_init 22 = .ok (.iconst 3, 1) := by decide +kernel
theorem dX12_init_23 : decode cX12_init 23 = .ok (.iconst 0, 1) := by decide +kernel
theorem dX12_init_24 : decode cX12_init 24 = .ok (.iastore, 1) := by decide +kernel
theorem dX12_init_25 : decode cX12_init 25 = .ok (.dup, 1) := by decide +kernel
theorem dX12_init_26 : decode cX12_init 26 = .ok (.iconst 4, 1) := by decide +kernel
theorem dX12_init_27 : decode cX12_init 27 = .ok (.iconst 0, 1) := by decide +kernel
theorem dX12_init_28 : decode cX12_init 28 = .ok (.iastore, 1) := by decide +kernel
theorem dX12_init_29 : decode cX12_init 29 = .ok (.dup, 1) := by decide +kernel
theorem dX12_init_30 : decode cX12_init 30 = .ok (.iconst 5, 1) := by decide +kernel
theorem dX12_init_31 : decode cX12_init 31 = .ok (.iconst 0, 1) := by decide +kernel
theorem dX12_init_32 : decode cX12_init 32 = .ok (.iastore, 1) := by decide +kernel
theorem dX12_init_33 : decode cX12_init 33 = .ok (.dup, 1) := by decide +kernel
theorem dX12_init_34 : decode cX12_init 34 = .ok (.bipush 6, 2) := by decide +kernel
theorem dX12_init_36 : decode cX12_init 36 = .ok (.iconst 0, 1) := by decide +kernel
theorem dX12_init_37 : decode cX12_init 37 = .ok (.iastore, 1) := by decide +kernel
theorem dX12_init_38 : decode cX12_init 38 = .ok (.dup, 1) := by decide +kernel
theorem dX12_init_39 : decode cX12_init 39 = .ok (.bipush 7, 2) := by decide +kernel
theorem dX12_init_41 : decode cX12_init 41 = .ok (.iconst 0, 1) := by decide +kernel
theorem dX12_init_42 : decode cX12_init 42 = .ok (.iastore, 1) := by decide +kernel
theorem dX12_init_43 : decode cX12_init 43 = .ok (.dup, 1) := by decide +kernel
theorem dX12_init_44 : decode cX12_init 44 = .ok (.bipush 8, 2) := by decide +kernel
theorem dX12_init_46 : decode cX12_init 46 = .ok (.iconst 0, 1) := by decide +kernel
theorem dX12_init_47 : decode cX12_init 47 = .ok (.iastore, 1) := by decide +kernel
theorem dX12_init_48 : decode cX12_init 48 = .ok (.dup, 1) := by decide +kernel
theorem dX12_init_49 : decode cX12_init 49 = .ok (.bipush 9, 2) := by decide +kernel
theorem dX12_init_51 : decode cX12_init 51 = .ok (.iconst 0, 1) := by decide +kernel
theorem dX12_init_52 : decode cX12_init 52 = .ok (.iastore, 1) := by decide +kernel
theorem dX12_init_53 : decode cX12_init 53 = .ok (.dup, 1) := by decide +kernel
theorem dX12_init_54 : decode cX12_init 54 = .ok (.bipush 10, 2) := by decide +kernel
theorem dX12_init_56 : decode cX12_init 56 = .ok (.iconst 0, 1) := by decide +kernel
theorem dX12_init_57 : decode cX12_init 57 = .ok (.iastore, 1) := by decide +kernel
theorem dX12_init_58 : decode cX12_init 58 = .ok (.dup, 1) := by decide +kernel
theorem dX12_init_59 : decode cX12_init 59 = .ok (.bipush 11, 2) := by decide +kernel
theorem dX12_init_61 : decode cX12_init 61 = .ok (.iconst 0, 1) := by decide +kernel
theorem dX12_init_62 : decode cX12_init 62 = .ok (.iastore, 1) := by decide +kernel
theorem dX12_init_63 : decode cX12_init 63 = .ok (.dup, 1) := by decide +kernel
theorem dX12_init_64 : decode cX12_init 64 = .ok (.bipush 12, 2) := by decide +kernel
theorem dX12_init_66 : decode cX12_init 66 = .ok (.iconst 0, 1) := by decide +kernel
theorem dX12_init_67 : decode cX12_init 67 = .ok (.iastore, 1) := by decide +kernel
theorem dX12_init_68 : decode cX12_init 68 = .ok (.dup, 1) := by decide +kernel
theorem dX12_init_69 : decode cX12_init 69 = .ok (.bipush 13, 2) := by decide +kernel
theorem dX12_init_71 : decode cX12_init 71 = .ok (.iconst 0, 1) := by decide +kernel
theorem dX12_init_72 : decode cX12_init 72 = .ok (.iastore, 1) := by decide +kernel
theorem dX12_init_73 : decode cX12_init 73 = .ok (.dup, 1) := by decide +kernel
theorem dX12_init_74 : decode cX12_init 74 = .ok (.bipush 14, 2) := by decide +kernel
theorem dX12_init_76 : decode cX12_init 76 = .ok (.iconst 0, 1) := by decide +kernel
theorem dX12_init_77 : decode cX12_init 77 = .ok (.iastore, 1) := by decide +kernel
theorem dX12_init_78 : decode cX12_init 78 = .ok (.dup, 1) := by decide +kernel
theorem dX12_init_79 : decode cX12_init 79 = .ok (.bipush 15, 2) := by decide +kernel
theorem dX12_init_81 : decode cX12_init 81 = .ok (.iconst 0, 1) := by decide +kernel
theorem dX12_init_82 : decode cX12_init 82 = .ok (.iastore, 1) := by decide +kernel
theorem dX12_init_83 : decode cX12_init 83 = .ok (.dup, 1) := by decide +kernel
theorem dX12_init_84 : decode cX12_init 84 = .ok (.bipush 16, 2) := by decide +kernel
theorem dX12_init_86 : decode cX12_init 86 = .ok (.iconst (-1), 1) := by decide +kernel
theorem dX12_init_87 : decode cX12_init 87 = .ok (.iastore, 1) := by decide +kernel
theorem dX12_init_88 : decode cX12_init 88 = .ok (.putfield 9, 3) := by decide +kernel
theorem dX12_init_91 : decode cX12_init 91 = .ok (.aload_n 0, 1) := by decide +kernel
theorem dX12_init_92 : decode cX12_init 92 = .ok (.bipush 7, 2) := by decide +kernel
theorem dX12_init_94 : decode cX12_init 94 = .ok (.newarray .int, 2) := by decide +kernel
theorem dX12_init_96 : decode cX12_init 96 = .ok (.putfield 13, 3) := by decide +kernel
theorem dX12_init_99 : decode cX12_init 99 = .ok (.aload_n 0, 1) := by decide +kernel
theorem dX12_init_100 : decode cX12_init 100 = .ok (.bipush 8, 2) := by decide +kernel
theorem dX12_init_102 : decode cX12_init 102 = .ok (.newarray .int, 2) := by decide +kernel
theorem dX12_init_104 : decode cX12_init 104 = .ok (.putfield 16, 3) := by decide +kernel
theorem dX12_init_107 : decode cX12_init 107 = .ok (.aload_n 0, 1) := by decide +kernel
theorem dX12_init_108 : decode cX12_init 108 = .ok (.bipush 8, 2) := by decide +kernel
theorem dX12_init_110 : decode cX12_init 110 = .ok (.newarray .int, 2) := by decide +kernel
theorem dX12_init_112 : decode cX12_init 112 = .ok (.putfield 19, 3) := by decide +kernel
theorem dX12_init_115 : decode cX12_init 115 = .ok (.aload_n 0, 1) := by decide +kernel
theorem dX12_init_116 : decode cX12_init 116 = .ok (.bipush 8, 2) := by decide +kernel
theorem dX12_init_118 : decode cX12_init 118 = .ok (.newarray .int, 2) := by decide +kernel
theorem dX12_init_120 : decode cX12_init 120 = .ok (.putfield 22, 3) := by decide +kernel
theorem dX12_init_123 : decode cX12_init 123 = .ok (.aload_n 0, 1) := by decide +kernel
theorem dX12_init_124 : decode cX12_init 124 = .ok (.bipush 8, 2) := by decide +kernel
theorem dX12_init_126 : decode cX12_init 126 = .ok (.newarray .int, 2) := by decide +kernel
theorem dX12_init_128 : decode cX12_init 128 = .ok (.putfield 25, 3) := by decide +kernel
theorem dX12_init_131 : decode cX12_init 131 = .ok (.aload_n 0, 1) := by decide +kernel
theorem dX12_init_132 : decode cX12_init 132 = .ok (.bipush 8, 2) := by decide +kernel
theorem dX12_init_134 : decode cX12_init 134 = .ok (.newarray .int, 2) := by decide +kernel
theorem dX12_init_136 : decode cX12_init 136 = .ok (.putfield 28, 3) := by decide +kernel
theorem dX12_init_139 : decode cX12_init 139 = .ok (.aload_n 0, 1) := by decide +kernel
theorem dX12_init_140 : decode cX12_init 140 = .ok (.bipush 8, 2) := by decide +kernel
theorem dX12_init_142 : decode cX12_init 142 = .ok (.newarray .int, 2) := by decide +kernel
theorem dX12_init_144 : decode cX12_init 144 = .ok (.putfield 31, 3) := by decide +kernel
theorem dX12_init_147 : decode cX12_init 147 = .ok (.aload_n 0, 1) := by decide +kernel
theorem dX12_init_148 : decode cX12_init 148 = .ok (.bipush 8, 2) := by decide +kernel
theorem dX12_init_150 : decode cX12_init 150 = .ok (.newarray .int, 2) := by decide +kernel
theorem dX12_init_152 : decode cX12_init 152 = .ok (.putfield 34, 3) := by decide +kernel
theorem dX12_init_155 : decode cX12_init 155 = .ok (.aload_n 0, 1) := by decide +kernel
theorem dX12_init_156 : decode cX12_init 156 = .ok (.bipush 8, 2) := by decide +kernel
theorem dX12_init_158 : decode cX12_init 158 = .ok (.newarray .int, 2) := by decide +kernel
theorem dX12_init_160 : decode cX12_init 160 = .ok (.putfield 37, 3) := by decide +kernel
theorem dX12_init_163 : decode cX12_init 163 = .ok (.aload_n 0, 1) := by decide +kernel
theorem dX12_init_164 : decode cX12_init 164 = .ok (.bipush 8, 2) := by decide +kernel
theorem dX12_init_166 : decode cX12_init 166 = .ok (.newarray .int, 2) := by decide +kernel
theorem dX12_init_168 : decode cX12_init 168 = .ok (.putfield 40, 3) := by decide +kernel
theorem dX12_init_171 : decode cX12_init 171 = .ok (.aload_n 0, 1) := by decide +kernel
theorem dX12_init_172 : decode cX12_init 172 = .ok (.bipush 8, 2) := by decide +kernel
theorem dX12_init_174 : decode cX12_init 174 = .ok (.newarray .int, 2) := by decide +kernel
theorem dX12_init_176 : decode cX12_init 176 = .ok (.putfield 43, 3) := by decide +kernel
theorem dX12_init_179 : decode cX12_init 179 = .ok (.aload_n 0, 1) := by decide +kernel
theorem dX12_init_180 : decode cX12_init 180 = .ok (.iconst 5, 1) := by decide +kernel
theorem dX12_init_181 : decode cX12_init 181 = .ok (.newarray .int, 2) := by decide +kernel
theorem dX12_init_183 : decode cX12_init 183 = .ok (.putfield 46, 3) := by decide +kernel
theorem dX12_init_186 : decode cX12_init 186 = .ok (.aload_n 0, 1) := by decide +kernel
theorem dX12_init_187 : decode cX12_init 187 = .ok (.iconst 5, 1) := by decide +kernel
theorem dX12_init_188 : decode cX12_init 188 = .ok (.newarray .int, 2) := by decide +kernel
theorem dX12_init_190 : decode cX12_init 190 = .ok (.putfield 49, 3) := by decide +kernel
theorem dX12_init_193 : decode cX12_init 193 = .ok (.aload_n 0, 1) := by decide +kernel
theorem dX12_init_194 : decode cX12_init 194 = .ok (.iconst 5, 1) := by decide +kernel
theorem dX12_init_195 : decode cX12_init 195 = .ok (.newarray .int, 2) := by decide +kernel
theorem dX12_init_197 : decode cX12_init 197 = .ok (.putfield 52, 3) := by decide +kernel
theorem dX12_init_200 : decode cX12_init 200 = .ok (.aload_n 0, 1) := by decide +kernel
theorem dX12_init_201 : decode cX12_init 201 = .ok (.iconst 5, 1) := by decide +kernel
theorem dX12_init_202 : decode cX12_init 202 = .ok (.newarray .int, 2) := by decide +kernel
theorem dX12_init_204 : decode cX12_init 204 = .ok (.putfield 55, 3) := by decide +kernel
theorem dX12_init_207 : decode cX12_init 207 = .ok (.aload_n 0, 1) := by decide +kernel
theorem dX12_init_208 : decode cX12_init 208 = .ok (.iconst 5, 1) := by decide +kernel
theorem dX12_init_209 : decode cX12_init 209 = .ok (.newarray .int, 2) := by decide +kernel
theorem dX12_init_211 : decode cX12_init 211 = .ok (.putfield 58, 3) := by decide +kernel
theorem dX12_init_214 : decode cX12_init 214 = .ok (.aload_n 0, 1) := by decide +kernel
theorem dX12_init_215 : decode cX12_init 215 = .ok (.bipush 10, 2) := by decide +kernel
theorem dX12_init_217 : decode cX12_init 217 = .ok (.newarray .int, 2) := by decide +kernel
theorem dX12_init_219 : decode cX12_init 219 = .ok (.putfield 61, 3) := by decide +kernel
theorem dX12_init_222 : decode cX12_init 222 = .ok (.aload_n 0, 1) := by decide +kernel
theorem dX12_init_223 : decode cX12_init 223 = .ok (.bipush 10, 2) := by decide +kernel
theorem dX12_init_225 : decode cX12_init 225 = .ok (.newarray .int, 2) := by decide +kernel
theorem dX12_init_227 : decode cX12_init 227 = .ok (.putfield 64, 3) := by decide +kernel
theorem dX12_init_230 : decode cX12_init 230 = .ok (.aload_n 0, 1) := by decide +kernel
theorem dX12_init_231 : decode cX12_init 231 = .ok (.bipush 10, 2) := by decide +kernel
theorem dX12_init_233 : decode cX12_init 233 = .ok (.newarray .int, 2) := by decide +kernel
theorem dX12_init_235 : decode cX12_init 235 = .ok (.putfield 67, 3) := by decide +kernel
theorem dX12_init_238 : decode cX12_init 238 = .ok (.aload_n 0, 1) := by decide +kernel
theorem dX12_init_239 : decode cX12_init 239 = .ok (.bipush 8, 2) := by decide +kernel
theorem dX12_init_241 : decode cX12_init 241 = .ok (.newarray .int, 2) := by decide +kernel
theorem dX12_init_243 : decode cX12_init 243 = .ok (.putfield 70, 3) := by decide +kernel
theorem dX12_init_246 : decode cX12_init 246 = .ok (.aload_n 0, 1) := by decide +kernel
theorem dX12_init_247 : decode cX12_init 247 = .ok (.bipush 8, 2) := by decide +kernel
theorem dX12_init_249 : decode cX12_init 249 = .ok (.newarray .int, 2) := by decide +kernel
theorem dX12_init_251 : decode cX12_init 251 = .ok (.putfield 73, 3) := by decide +kernel
theorem dX12_init_254 : decode cX12_init 254 = .ok (.aload_n 0, 1) := by decide +kernel
theorem dX12_init_255 : decode cX12_init 255 = .ok (.bipush 8, 2) := by decide +kernel
theorem dX12_init_257 : decode cX12_init 257 = .ok (.newarray .int, 2) := by decide +kernel
theorem dX12_init_259 : decode cX12_init 259 = .ok (.putfield 76, 3) := by decide +kernel
theorem dX12_init_262 : decode cX12_init 262 = .ok (.aload_n 0, 1) := by decide +kernel
theorem dX12_init_263 : decode cX12_init 263 = .ok (.bipush 8, 2) := by decide +kernel
theorem dX12_init_265 : decode cX12_init 265 = .ok (.newarray .int, 2) := by decide +kernel
theorem dX12_init_267 : decode cX12_init 267 = .ok (.putfield 79, 3) := by decide +kernel
theorem dX12_init_270 : decode cX12_init 270 = .ok (.aload_n 0, 1) := by decide +kernel
theorem dX12_init_271 : decode cX12_init 271 = .ok (.bipush 8, 2) := by decide +kernel
theorem dX12_init_273 : decode cX12_init 273 = .ok (.newarray .int, 2) := by decide +kernel
theorem dX12_init_275 : decode cX12_init 275 = .ok (.putfield 82, 3) := by decide +kernel
theorem dX12_init_278 : decode cX12_init 278 = .ok (.aload_n 0, 1) := by decide +kernel
theorem dX12_init_279 : decode cX12_init 279 = .ok (.bipush 8, 2) := by decide +kernel
theorem dX12_init_281 : decode cX12_init 281 = .ok (.newarray .int, 2) := by decide +kernel
theorem dX12_init_283 : decode cX12_init 283 = .ok (.putfield 85, 3) := by decide +kernel
theorem dX12_init_286 : decode cX12_init 286 = .ok (.aload_n 0, 1) := by decide +kernel
theorem dX12_init_287 : decode cX12_init 287 = .ok (.iconst 5, 1) := by decide +kernel
theorem dX12_init_288 : decode cX12_init 288 = .ok (.newarray .int, 2) := by decide +kernel
theorem dX12_init_290 : decode cX12_init 290 = .ok (.putfield 88, 3) := by decide +kernel
theorem dX12_init_293 : decode cX12_init 293 = .ok (.aload_n 0, 1) := by decide +kernel
theorem dX12_init_294 : decode cX12_init 294 = .ok (.iconst 5, 1) := by decide +kernel
theorem dX12_init_295 : decode cX12_init 295 = .ok (.newarray .int, 2) := by decide +kernel
theorem dX12_init_297 : decode cX12_init 297 = .ok (.putfield 91, 3) := by decide +kernel
theorem dX12_init_300 : decode cX12_init 300 = .ok (.aload_n 0, 1) := by decide +kernel
theorem dX12_init_301 : decode cX12_init 301 = .ok (.iconst 5, 1) := by decide +kernel
theorem dX12_init_302 : decode cX12_init 302 = .ok (.newarray .int, 2) := by decide +kernel
theorem dX12_init_304 : decode cX12_init 304 = .ok (.putfield 94, 3) := by decide +kernel
theorem dX12_init_307 : decode cX12_init 307 = .ok (.aload_n 0, 1) := by decide +kernel
theorem dX12_init_308 : decode cX12_init 308 = .ok (.iconst 5, 1) := by decide +kernel
theorem dX12_init_309 : decode cX12_init 309 = .ok (.newarray .int, 2) := by decide +kernel
theorem dX12_init_311 : decode cX12_init 311 = .ok (.putfield 97, 3) := by decide +kernel
theorem dX12_init_314 : decode cX12_init 314 = .ok (.aload_n 0, 1) := by decide +kernel
theorem dX12_init_315 : decode cX12_init 315 = .ok (.iconst 5, 1) := by decide +kernel
theorem dX12_init_316 : decode cX12_init 316 = .ok (.newarray .int, 2) := by decide +kernel
theorem dX12_init_318 : decode cX12_init 318 = .ok (.putfield 100, 3) := by decide +kernel
theorem dX12_init_321 : decode cX12_init 321 = .ok (.aload_n 0, 1) := by decide +kernel
theorem dX12_init_322 : decode cX12_init 322 = .ok (.bipush 13, 2) := by decide +kernel
theorem dX12_init_324 : decode cX12_init 324 = .ok (.putfield 103, 3) := by decide +kernel
theorem dX12_init_327 : decode cX12_init 327 = .ok (.aload_n 0, 1) := by decide +kernel
theorem dX12_init_328 : decode cX12_init 328 = .ok (.sipush 400, 3) := by decide +kernel
theorem dX12_init_331 : decode cX12_init 331 = .ok (.newarray .byte, 2) := by decide +kernel
theorem dX12_init_333 : decode cX12_init 333 = .ok (.putfield 107, 3) := by decide +kernel
theorem dX12_init_336 : decode cX12_init 336 = .ok (.aload_n 0, 1) := by decide +kernel
theorem dX12_init_337 : decode cX12_init 337 = .ok (.sipush 1800, 3) := by decide +kernel
theorem dX12_init_340 : decode cX12_init 340 = .ok (.newarray .int, 2) := by decide +kernel
theorem dX12_init_342 : decode cX12_init 342 = .ok (.putfield 111, 3) := by decide +kernel
theorem dX12_init_345 : decode cX12_init 345 = .ok (.aload_n 0, 1) := by decide +kernel
theorem dX12_init_346 : decode cX12_init 346 = .ok (.sipush 1800, 3) := by decide +kernel
theorem dX12_init_349 : decode cX12_init 349 = .ok (.newarray .int, 2) := by decide +kernel
theorem dX12_init_351 : decode cX12_init 351 = .ok (.putfield 114, 3) := by decide +kernel
theorem dX12_init_354 : decode cX12_init 354 = .ok (.aload_n 0, 1) := by decide +kernel
theorem dX12_init_355 : decode cX12_init 355 = .ok (.bipush 6, 2) := by decide +kernel
theorem dX12_init_357 : decode cX12_init 357 = .ok (.newarray .int, 2) := by decide +kernel
theorem dX12_init_359 : decode cX12_init 359 = .ok (.putfield 117, 3) := by decide +kernel
theorem dX12_init_362 : decode cX12_init 362 = .ok (.aload_n 0, 1) := by decide +kernel
theorem dX12_init_363 : decode cX12_init 363 = .ok (.bipush 72, 2) := by decide +kernel
theorem dX12_init_365 : decode cX12_init 365 = .ok (.newarray .int, 2) := by decide +kernel
theorem dX12_init_367 : decode cX12_init 367 = .ok (.putfield 120, 3) := by decide +kernel
theorem dX12_init_370 : decode cX12_init 370 = .ok (.aload_n 0, 1) := by decide +kernel
theorem dX12_init_371 : decode cX12_init 371 = .ok (.bipush 72, 2) := by decide +kernel
theorem dX12_init_373 : decode cX12_init 373 = .ok (.newarray .int, 2) := by decide +kernel
theorem dX12_init_375 : decode cX12_init 375 = .ok (.putfield 123, 3) := by decide +kernel
theorem dX12_init_378 : decode cX12_init 378 = .ok (.aload_n 0, 1) := by decide +kernel
theorem dX12_init_379 : decode cX12_init 379 = .ok (.bipush 72, 2) := by decide +kernel
theorem dX12_init_381 : decode cX12_init 381 = .ok (.newarray .int, 2) := by decide +kernel
theorem dX12_init_383 : decode cX12_init 383 = .ok (.putfield 126, 3) := by decide +kernel
theorem dX12_init_386 : decode cX12_init 386 = .ok (.aload_n 0, 1) := by decide +kernel
theorem dX12_init_387 : decode cX12_init 387 = .ok (.sipush 402, 3) := by decide +kernel
theorem dX12_init_390 : decode cX12_init 390 = .ok (.newarray .int, 2) := by decide +kernel
theorem dX12_init_392 : decode cX12_init 392 = .ok (.putfield 129, 3) := by decide +kernel
theorem dX12_init_395 : decode cX12_init 395 = .ok (.aload_n 0, 1) := by decide +kernel
theorem dX12_init_396 : decode cX12_init 396 = .ok (.bipush 13, 2) := by decide +kernel
theorem dX12_init_398 : decode cX12_init 398 = .ok (.newarray .long, 2) := by decide +kernel
theorem dX12_init_400 : decode cX12_init 400 = .ok (.putfield 132, 3) := by decide +kernel
theorem dX12_init_403 : decode cX12_init 403 = .ok (.aload_n 0, 1) := by decide +kernel
theorem dX12_init_404 : decode cX12_init 404 = .ok (.sipush 300, 3) := by decide +kernel
theorem dX12_init_407 : decode cX12_init 407 = .ok (.newarray .long, 2) := by decide +kernel
theorem dX12_init_409 : decode cX12_init 409 = .ok (.putfield 136, 3) := by decide +kernel
theorem dX12_init_412 : decode cX12_init 412 = .ok (.aload_n 0, 1) := by decide +kernel
theorem dX12_init_413 : decode cX12_init 413 = .ok (.bipush 6, 2) := by decide +kernel
theorem dX12_init_415 : decode cX12_init 415 = .ok (.newarray .int, 2) := by decide +kernel
theorem dX12_init_417 : decode cX12_init 417 = .ok (.putfield 139, 3) := by decide +kernel
theorem dX12_init_420 : decode cX12_init 420 = .ok (.aload_n 0, 1) := by decide +kernel
theorem dX12_init_421 : decode cX12_init 421 = .ok (.sipush 1020, 3) := by decide +kernel
theorem dX12_init_424 : decode cX12_init 424 = .ok (.newarray .int, 2) := by decide +kernel
theorem dX12_init_426 : decode cX12_init 426 = .ok (.putfield 142, 3) := by decide +kernel
theorem dX12_init_429 : decode cX12_init 429 = .ok (.aload_n 0, 1) := by decide +kernel
theorem dX12_init_430 : decode cX12_init 430 = .ok (.iconst 1, 1) := by decide +kernel
theorem dX12_init_431 : decode cX12_init 431 = .ok (.newarray .int, 2) := by decide +kernel
theorem dX12_init_433 : decode cX12_init 433 = .ok (.putfield 145, 3) := by decide +kernel
theorem dX12_init_436 : decode cX12_init 436 = .ok (.aload_n 0, 1) := by decide +kernel
theorem dX12_init_437 : decode cX12_init 437 = .ok (.bipush 8, 2) := by decide +kernel
theorem dX12_init_439 : decode cX12_init 439 = .ok (.newarray .int, 2) := by decide +kernel
theorem dX12_init_441 : decode cX12_init 441 = .ok (.putfield 148, 3) := by decide +kernel
theorem dX12_init_444 : decode cX12_init 444 = .ok (.aload_n 0, 1) := by decide +kernel
theorem dX12_init_445 : decode cX12_init 445 = .ok (.bipush 8, 2) := by decide +kernel
theorem dX12_init_447 : decode cX12_init 447 = .ok (.newarray .int, 2) := by decide +kernel
theorem dX12_init_449 : decode cX12_init 449 = .ok (.putfield 151, 3) := by decide +kernel
theorem dX12_init_452 : decode cX12_init 452 = .ok (.aload_n 0, 1) := by decide +kernel
theorem dX12_init_453 : decode cX12_init 453 = .ok (.sipush 256, 3) := by decide +kernel
theorem dX12_init_456 : decode cX12_init 456 = .ok (.newarray .int, 2) := by decide +kernel
theorem dX12_init_458 : decode cX12_init 458 = .ok (.putfield 154, 3) := by decide +kernel
theorem dX12_init_461 : decode cX12_init 461 = .ok (.aload_n 0, 1) := by decide +kernel
theorem dX12_init_462 : decode cX12_init 462 = .ok (.bipush 8, 2) := by decide +kernel
theorem dX12_init_464 : decode cX12_init 464 = .ok (.newarray .int, 2) := by decide +kernel
theorem dX12_init_466 : decode cX12_init 466 = .ok (.putfield 157, 3) := by decide +kernel
theorem dX12_init_469 : decode cX12_init 469 = .ok (.aload_n 0, 1) := by decide +kernel
theorem dX12_init_470 : decode cX12_init 470 = .ok (.sipush 9150, 3) := by decide +kernel
theorem dX12_init_473 : decode cX12_init 473 = .ok (.newarray .int, 2) := by decide +kernel
theorem dX12_init_475 : decode cX12_init 475 = .ok (.putfield 160, 3) := by decide +kernel
theorem dX12_init_478 : decode cX12_init 478 = .ok (.aload_n 0, 1) := by decide +kernel
theorem dX12_init_479 : decode cX12_init 479 = .ok (.sipush 1464, 3) := by decide +kernel
theorem dX12_init_482 : decode cX12_init 482 = .ok (.newarray .int, 2) := by decide +kernel
theorem dX12_init_484 : decode cX12_init 484 = .ok (.putfield 163, 3) := by decide +kernel
theorem dX12_init_487 : decode cX12_init 487 = .ok (.aload_n 0, 1) := by decide +kernel
theorem dX12_init_488 : decode cX12_init 488 = .ok (.sipush 144, 3) := by decide +kernel
theorem dX12_init_491 : decode cX12_init 491 = .ok (.newarray .int, 2) := by decide +kernel
theorem dX12_init_493 : decode cX12_init 493 = .ok (.putfield 166, 3) := by decide +kernel
theorem dX12_init_496 : decode cX12_init 496 = .ok (.aload_n 0, 1) := by decide +kernel
theorem dX12_init_497 : decode cX12_init 497 = .ok (.bipush 24, 2) := by decide +kernel
theorem dX12_init_499 : decode cX12_init 499 = .ok (.newarray .int, 2) := by decide +kernel
theorem dX12_init_501 : decode cX12_init 501 = .ok (.putfield 169, 3) := by decide +kernel
theorem dX12_init_504 : decode cX12_init 504 = .ok (.aload_n 0, 1) := by decide +kernel
theorem dX12_init_505 : decode cX12_init 505 = .ok (.bipush 24, 2) := by decide +kernel
theorem dX12_init_507 : decode cX12_init 507 = .ok (.newarray .int, 2) := by decide +kernel
theorem dX12_init_509 : decode cX12_init 509 = .ok (.putfield 172, 3) := by decide +kernel
theorem dX12_init_512 : decode cX12_init 512 = .ok (.aload_n 0, 1) := by decide +kernel
theorem dX12_init_513 : decode cX12_init 513 = .ok (.bipush 24, 2) := by decide +kernel
theorem dX12_init_515 : decode cX12_init 515 = .ok (.newarray .int, 2) := by decide +kernel
theorem dX12_init_517 : decode cX12_init 517 = .ok (.putfield 175, 3) := by decide +kernel
theorem dX12_init_520 : decode cX12_init 520 = .ok (.aload_n 0, 1) := by decide +kernel
theorem dX12_init_521 : decode cX12_init 521 = .ok (.bipush 8, 2) := by decide +kernel
theorem dX12_init_523 : decode cX12_init 523 = .ok (.newarray .int, 2) := by decide +kernel
theorem dX12_init_525 : decode cX12_init 525 = .ok (.putfield 178, 3) := by decide +kernel
theorem dX12_init_528 : decode cX12_init 528 = .ok (.aload_n 0, 1) := by decide +kernel
theorem dX12_init_529 : decode cX12_init 529 = .ok (.bipush 81, 2) := by decide +kernel
theorem dX12_init_531 : decode cX12_init 531 = .ok (.newarray .int, 2) := by decide +kernel
theorem dX12_init_533 : decode cX12_init 533 = .ok (.putfield 181, 3) := by decide +kernel
theorem dX12_init_536 : decode cX12_init 536 = .ok (.aload_n 0, 1) := by decide +kernel
theorem dX12_init_537 : decode cX12_init 537 = .ok (.bipush 7, 2) := by decide +kernel
theorem dX12_init_539 : decode cX12_init 539 = .ok (.newarray .int, 2) := by decide +kernel
theorem dX12_init_541 : decode cX12_init 541 = .ok (.putfield 184, 3) := by decide +kernel
theorem dX12_init_544 : decode cX12_init 544 = .ok (.aload_n 0, 1) := by decide +kernel
theorem dX12_init_545 : decode cX12_init 545 = .ok (.bipush 7, 2) := by decide +kernel
theorem dX12_init_547 : decode cX12_init 547 = .ok (.newarray .int, 2) := by decide +kernel
theorem dX12_init_549 : decode cX12_init 549 = .ok (.putfield 187, 3) := by decide +kernel
theorem dX12_init_552 : decode cX12_init 552 = .ok (.aload_n 0, 1) := by decide +kernel
theorem dX12_init_553 : decode cX12_init 553 = .ok (.sipush 1464, 3) := by decide +kernel
theorem dX12_init_556 : decode cX12_init 556 = .ok (.newarray .int, 2) := by decide +kernel
theorem dX12_init_558 : decode cX12_init 558 = .ok (.putfield 190, 3) := by decide +kernel
theorem dX12_init_561 : decode cX12_init 561 = .ok (.aload_n 0, 1) := by decide +kernel
theorem dX12_init_562 : decode cX12_init 562 = .ok (.bipush 24, 2) := by decide +kernel
theorem dX12_init_564 : decode cX12_init 564 = .ok (.newarray .boolean, 2) := by decide +kernel
theorem dX12_init_566 : decode cX12_init 566 = .ok (.putfield 193, 3) := by decide +kernel
theorem dX12_init_569 : decode cX12_init 569 = .ok (.aload_n 0, 1) := by decide +kernel
theorem dX12_init_570 : decode cX12_init 570 = .ok (.sipush 6250, 3) := by decide +kernel
theorem dX12_init_573 : decode cX12_init 573 = .ok (.newarray .int, 2) := by decide +kernel
theorem dX12_init_575 : decode cX12_init 575 = .ok (.putfield 197, 3) := by decide +kernel
theorem dX12_init_578 : decode cX12_init 578 = .ok (.aload_n 0, 1) := by decide +kernel
theorem dX12_init_579 : decode cX12_init 579 = .ok (.iconst 4, 1) := by decide +kernel
theorem dX12_init_580 : decode cX12_init 580 = .ok (.newarray .boolean, 2) := by decide +kernel
theorem dX12_init_582 : decode cX12_init 582 = .ok (.putfield 200, 3) := by decide +kernel
theorem dX12_init_585 : decode cX12_init 585 = .ok (.return_, 1) := by decide +kernel
set_option maxRecDepth 100000 in
noncomputable def f_X12_init (G : GG) (v0 : Nat) (h : AH) : Option (AH) :=
nn (m_n h) fun x1 =>
nn (m_new h (.inr (.int, 17))) fun h2 =>
ck (ixb h2 x1 .int (0 : Int32) = true) <|
nn (m_si h2 x1 (0 : Int32).toNatClampNeg (0 : Int32)) fun h5 =>
ck (ixb h5 x1 .int (1 : Int32) = true) <|
nn (m_si h5 x1 (1 : Int32).toNatClampNeg (0 : Int32)) fun h8 =>
ck (ixb h8 x1 .int (2 : Int32) = true) <|
nn (m_si h8 x1 (2 : Int32).toNatClampNeg (0 : Int32)) fun h11 =>
ck (ixb h11 x1 .int (3 : Int32) = true) <|
nn (m_si h11 x1 (3 : Int32).toNatClampNeg (0 : Int32)) fun h14 =>
ck (ixb h14 x1 .int (4 : Int32) = true) <|
nn (m_si h14 x1 (4 : Int32).toNatClampNeg (0 : Int32)) fun h17 =>
ck (ixb h17 x1 .int (5 : Int32) = true) <|
nn (m_si h17 x1 (5 : Int32).toNatClampNeg (0 : Int32)) fun h20 =>
ck (ixb h20 x1 .int (6 : Int32) = true) <|
nn (m_si h20 x1 (6 : Int32).toNatClampNeg (0 : Int32)) fun h23 =>
ck (ixb h23 x1 .int (7 : Int32) = true) <|
nn (m_si h23 x1 (7 : Int32).toNatClampNeg (0 : Int32)) fun h26 =>
ck (ixb h26 x1 .int (8 : Int32) = true) <|
nn (m_si h26 x1 (8 : Int32).toNatClampNeg (0 : Int32)) fun h29 =>
ck (ixb h29 x1 .int (9 : Int32) = true) <|
nn (m_si h29 x1 (9 : Int32).toNatClampNeg (0 : Int32)) fun h32 =>
ck (ixb h32 x1 .int (10 : Int32) = true) <|
nn (m_si h32 x1 (10 : Int32).toNatClampNeg (0 : Int32)) fun h35 =>
ck (ixb h35 x1 .int (11 : Int32) = true) <|
nn (m_si h35 x1 (11 : Int32).toNatClampNeg (0 : Int32)) fun h38 =>
ck (ixb h38 x1 .int (12 : Int32) = true) <|
nn (m_si h38 x1 (12 : Int32).toNatClampNeg (0 : Int32)) fun h41 =>
ck (ixb h41 x1 .int (13 : Int32) = true) <|
nn (m_si h41 x1 (13 : Int32).toNatClampNeg (0 : Int32)) fun h44 =>
ck (ixb h44 x1 .int (14 : Int32) = true) <|
nn (m_si h44 x1 (14 : Int32).toNatClampNeg (0 : Int32)) fun h47 =>
ck (ixb h47 x1 .int (15 : Int32) = true) <|
nn (m_si h47 x1 (15 : Int32).toNatClampNeg (0 : Int32)) fun h50 =>
ck (ixb h50 x1 .int (16 : Int32) = true) <|
nn (m_si h50 x1 (16 : Int32).toNatClampNeg (-1 : Int32)) fun h53 =>
ck (m_t h53 v0 = .inl 12) <|
nn (m_sr h53 v0 1 (some x1)) fun h55 =>
nn (m_n h55) fun x56 =>
nn (m_new h55 (.inr (.int, 7))) fun h57 =>
ck (m_t h57 v0 = .inl 12) <|
nn (m_sr h57 v0 2 (some x56)) fun h59 =>
nn (m_n h59) fun x60 =>
nn (m_new h59 (.inr (.int, 8))) fun h61 =>
ck (m_t h61 v0 = .inl 12) <|
nn (m_sr h61 v0 3 (some x60)) fun h63 =>
nn (m_n h63) fun x64 =>
nn (m_new h63 (.inr (.int, 8))) fun h65 =>
ck (m_t h65 v0 = .inl 12) <|
nn (m_sr h65 v0 4 (some x64)) fun h67 =>
nn (m_n h67) fun x68 =>
nn (m_new h67 (.inr (.int, 8))) fun h69 =>
ck (m_t h69 v0 = .inl 12) <|
nn (m_sr h69 v0 5 (some x68)) fun h71 =>
nn (m_n h71) fun x72 =>
nn (m_new h71 (.inr (.int, 8))) fun h73 =>
ck (m_t h73 v0 = .inl 12) <|
nn (m_sr h73 v0 6 (some x72)) fun h75 =>
nn (m_n h75) fun x76 =>
nn (m_new h75 (.inr (.int, 8))) fun h77 =>
ck (m_t h77 v0 = .inl 12) <|
nn (m_sr h77 v0 7 (some x76)) fun h79 =>
nn (m_n h79) fun x80 =>
nn (m_new h79 (.inr (.int, 8))) fun h81 =>
ck (m_t h81 v0 = .inl 12) <|
nn (m_sr h81 v0 8 (some x80)) fun h83 =>
nn (m_n h83) fun x84 =>
nn (m_new h83 (.inr (.int, 8))) fun h85 =>
ck (m_t h85 v0 = .inl 12) <|
nn (m_sr h85 v0 9 (some x84)) fun h87 =>
nn (m_n h87) fun x88 =>
nn (m_new h87 (.inr (.int, 8))) fun h89 =>
ck (m_t h89 v0 = .inl 12) <|
nn (m_sr h89 v0 10 (some x88)) fun h91 =>
nn (m_n h91) fun x92 =>
nn (m_new h91 (.inr (.int, 8))) fun h93 =>
ck (m_t h93 v0 = .inl 12) <|
nn (m_sr h93 v0 11 (some x92)) fun h95 =>
nn (m_n h95) fun x96 =>
nn (m_new h95 (.inr (.int, 8))) fun h97 =>
ck (m_t h97 v0 = .inl 12) <|
nn (m_sr h97 v0 12 (some x96)) fun h99 =>
nn (m_n h99) fun x100 =>
nn (m_new h99 (.inr (.int, 5))) fun h101 =>
ck (m_t h101 v0 = .inl 12) <|
nn (m_sr h101 v0 13 (some x100)) fun h103 =>
nn (m_n h103) fun x104 =>
nn (m_new h103 (.inr (.int, 5))) fun h105 =>
ck (m_t h105 v0 = .inl 12) <|
nn (m_sr h105 v0 14 (some x104)) fun h107 =>
nn (m_n h107) fun x108 =>
nn (m_new h107 (.inr (.int, 5))) fun h109 =>
ck (m_t h109 v0 = .inl 12) <|
nn (m_sr h109 v0 15 (some x108)) fun h111 =>
nn (m_n h111) fun x112 =>
nn (m_new h111 (.inr (.int, 5))) fun h113 =>
ck (m_t h113 v0 = .inl 12) <|
nn (m_sr h113 v0 16 (some x112)) fun h115 =>
nn (m_n h115) fun x116 =>
nn (m_new h115 (.inr (.int, 5))) fun h117 =>
ck (m_t h117 v0 = .inl 12) <|
nn (m_sr h117 v0 17 (some x116)) fun h119 =>
nn (m_n h119) fun x120 =>
nn (m_new h119 (.inr (.int, 10))) fun h121 =>
ck (m_t h121 v0 = .inl 12) <|
nn (m_sr h121 v0 18 (some x120)) fun h123 =>
nn (m_n h123) fun x124 =>
nn (m_new h123 (.inr (.int, 10))) fun h125 =>
ck (m_t h125 v0 = .inl 12) <|
nn (m_sr h125 v0 19 (some x124)) fun h127 =>
nn (m_n h127) fun x128 =>
nn (m_new h127 (.inr (.int, 10))) fun h129 =>
ck (m_t h129 v0 = .inl 12) <|
nn (m_sr h129 v0 20 (some x128)) fun h131 =>
nn (m_n h131) fun x132 =>
nn (m_new h131 (.inr (.int, 8))) fun h133 =>
ck (m_t h133 v0 = .inl 12) <|
nn (m_sr h133 v0 21 (some x132)) fun h135 =>
nn (m_n h135) fun x136 =>
nn (m_new h135 (.inr (.int, 8))) fun h137 =>
ck (m_t h137 v0 = .inl 12) <|
nn (m_sr h137 v0 22 (some x136)) fun h139 =>
nn (m_n h139) fun x140 =>
nn (m_new h139 (.inr (.int, 8))) fun h141 =>
ck (m_t h141 v0 = .inl 12) <|
nn (m_sr h141 v0 23 (some x140)) fun h143 =>
nn (m_n h143) fun x144 =>
nn (m_new h143 (.inr (.int, 8))) fun h145 =>
ck (m_t h145 v0 = .inl 12) <|
nn (m_sr h145 v0 24 (some x144)) fun h147 =>
nn (m_n h147) fun x148 =>
nn (m_new h147 (.inr (.int, 8))) fun h149 =>
ck (m_t h149 v0 = .inl 12) <|
nn (m_sr h149 v0 25 (some x148)) fun h151 =>
nn (m_n h151) fun x152 =>
nn (m_new h151 (.inr (.int, 8))) fun h153 =>
ck (m_t h153 v0 = .inl 12) <|
nn (m_sr h153 v0 26 (some x152)) fun h155 =>
nn (m_n h155) fun x156 =>
nn (m_new h155 (.inr (.int, 5))) fun h157 =>
ck (m_t h157 v0 = .inl 12) <|
nn (m_sr h157 v0 27 (some x156)) fun h159 =>
nn (m_n h159) fun x160 =>
nn (m_new h159 (.inr (.int, 5))) fun h161 =>
ck (m_t h161 v0 = .inl 12) <|
nn (m_sr h161 v0 28 (some x160)) fun h163 =>
nn (m_n h163) fun x164 =>
nn (m_new h163 (.inr (.int, 5))) fun h165 =>
ck (m_t h165 v0 = .inl 12) <|
nn (m_sr h165 v0 29 (some x164)) fun h167 =>
nn (m_n h167) fun x168 =>
nn (m_new h167 (.inr (.int, 5))) fun h169 =>
ck (m_t h169 v0 = .inl 12) <|
nn (m_sr h169 v0 30 (some x168)) fun h171 =>
nn (m_n h171) fun x172 =>
nn (m_new h171 (.inr (.int, 5))) fun h173 =>
ck (m_t h173 v0 = .inl 12) <|
nn (m_sr h173 v0 31 (some x172)) fun h175 =>
nn (m_si h175 v0 41 (13 : Int32)) fun h176 =>
nn (m_n h176) fun x177 =>
nn (m_new h176 (.inr (.byte, 400))) fun h178 =>
ck (m_t h178 v0 = .inl 12) <|
nn (m_sr h178 v0 42 (some x177)) fun h180 =>
nn (m_n h180) fun x181 =>
nn (m_new h180 (.inr (.int, 1800))) fun h182 =>
ck (m_t h182 v0 = .inl 12) <|
nn (m_sr h182 v0 43 (some x181)) fun h184 =>
nn (m_n h184) fun x185 =>
nn (m_new h184 (.inr (.int, 1800))) fun h186 =>
ck (m_t h186 v0 = .inl 12) <|
nn (m_sr h186 v0 44 (some x185)) fun h188 =>
nn (m_n h188) fun x189 =>
nn (m_new h188 (.inr (.int, 6))) fun h190 =>
ck (m_t h190 v0 = .inl 12) <|
nn (m_sr h190 v0 45 (some x189)) fun h192 =>
nn (m_n h192) fun x193 =>
nn (m_new h192 (.inr (.int, 72))) fun h194 =>
ck (m_t h194 v0 = .inl 12) <|
nn (m_sr h194 v0 46 (some x193)) fun h196 =>
nn (m_n h196) fun x197 =>
nn (m_new h196 (.inr (.int, 72))) fun h198 =>
ck (m_t h198 v0 = .inl 12) <|
nn (m_sr h198 v0 47 (some x197)) fun h200 =>
nn (m_n h200) fun x201 =>
nn (m_new h200 (.inr (.int, 72))) fun h202 =>
ck (m_t h202 v0 = .inl 12) <|
nn (m_sr h202 v0 48 (some x201)) fun h204 =>
nn (m_n h204) fun x205 =>
nn (m_new h204 (.inr (.int, 402))) fun h206 =>
ck (m_t h206 v0 = .inl 12) <|
nn (m_sr h206 v0 49 (some x205)) fun h208 =>
nn (m_n h208) fun x209 =>
nn (m_new h208 (.inr (.long, 13))) fun h210 =>
ck (m_t h210 v0 = .inl 12) <|
nn (m_sr h210 v0 50 (some x209)) fun h212 =>
nn (m_n h212) fun x213 =>
nn (m_new h212 (.inr (.long, 300))) fun h214 =>
ck (m_t h214 v0 = .inl 12) <|
nn (m_sr h214 v0 51 (some x213)) fun h216 =>
nn (m_n h216) fun x217 =>
nn (m_new h216 (.inr (.int, 6))) fun h218 =>
ck (m_t h218 v0 = .inl 12) <|
nn (m_sr h218 v0 52 (some x217)) fun h220 =>
nn (m_n h220) fun x221 =>
nn (m_new h220 (.inr (.int, 1020))) fun h222 =>
ck (m_t h222 v0 = .inl 12) <|
nn (m_sr h222 v0 53 (some x221)) fun h224 =>
nn (m_n h224) fun x225 =>
nn (m_new h224 (.inr (.int, 1))) fun h226 =>
ck (m_t h226 v0 = .inl 12) <|
nn (m_sr h226 v0 54 (some x225)) fun h228 =>
nn (m_n h228) fun x229 =>
nn (m_new h228 (.inr (.int, 8))) fun h230 =>
ck (m_t h230 v0 = .inl 12) <|
nn (m_sr h230 v0 58 (some x229)) fun h232 =>
nn (m_n h232) fun x233 =>
nn (m_new h232 (.inr (.int, 8))) fun h234 =>
ck (m_t h234 v0 = .inl 12) <|
nn (m_sr h234 v0 59 (some x233)) fun h236 =>
nn (m_n h236) fun x237 =>
nn (m_new h236 (.inr (.int, 256))) fun h238 =>
ck (m_t h238 v0 = .inl 12) <|
nn (m_sr h238 v0 60 (some x237)) fun h240 =>
nn (m_n h240) fun x241 =>
nn (m_new h240 (.inr (.int, 8))) fun h242 =>
ck (m_t h242 v0 = .inl 12) <|
nn (m_sr h242 v0 61 (some x241)) fun h244 =>
nn (m_n h244) fun x245 =>
nn (m_new h244 (.inr (.int, 9150))) fun h246 =>
ck (m_t h246 v0 = .inl 12) <|
nn (m_sr h246 v0 65 (some x245)) fun h248 =>
nn (m_n h248) fun x249 =>
nn (m_new h248 (.inr (.int, 1464))) fun h250 =>
ck (m_t h250 v0 = .inl 12) <|
nn (m_sr h250 v0 66 (some x249)) fun h252 =>
nn (m_n h252) fun x253 =>
nn (m_new h252 (.inr (.int, 144))) fun h254 =>
ck (m_t h254 v0 = .inl 12) <|
nn (m_sr h254 v0 67 (some x253)) fun h256 =>
nn (m_n h256) fun x257 =>
nn (m_new h256 (.inr (.int, 24))) fun h258 =>
ck (m_t h258 v0 = .inl 12) <|
nn (m_sr h258 v0 68 (some x257)) fun h260 =>
nn (m_n h260) fun x261 =>
nn (m_new h260 (.inr (.int, 24))) fun h262 =>
ck (m_t h262 v0 = .inl 12) <|
nn (m_sr h262 v0 69 (some x261)) fun h264 =>
nn (m_n h264) fun x265 =>
nn (m_new h264 (.inr (.int, 24))) fun h266 =>
ck (m_t h266 v0 = .inl 12) <|
nn (m_sr h266 v0 70 (some x265)) fun h268 =>
nn (m_n h268) fun x269 =>
nn (m_new h268 (.inr (.int, 8))) fun h270 =>
ck (m_t h270 v0 = .inl 12) <|
nn (m_sr h270 v0 71 (some x269)) fun h272 =>
nn (m_n h272) fun x273 =>
nn (m_new h272 (.inr (.int, 81))) fun h274 =>
ck (m_t h274 v0 = .inl 12) <|
nn (m_sr h274 v0 72 (some x273)) fun h276 =>
nn (m_n h276) fun x277 =>
nn (m_new h276 (.inr (.int, 7))) fun h278 =>
ck (m_t h278 v0 = .inl 12) <|
nn (m_sr h278 v0 73 (some x277)) fun h280 =>
nn (m_n h280) fun x281 =>
nn (m_new h280 (.inr (.int, 7))) fun h282 =>
ck (m_t h282 v0 = .inl 12) <|
nn (m_sr h282 v0 74 (some x281)) fun h284 =>
nn (m_n h284) fun x285 =>
nn (m_new h284 (.inr (.int, 1464))) fun h286 =>
ck (m_t h286 v0 = .inl 12) <|
nn (m_sr h286 v0 79 (some x285)) fun h288 =>
nn (m_n h288) fun x289 =>
nn (m_new h288 (.inr (.boolean, 24))) fun h290 =>
ck (m_t h290 v0 = .inl 12) <|
nn (m_sr h290 v0 80 (some x289)) fun h292 =>
nn (m_n h292) fun x293 =>
nn (m_new h292 (.inr (.int, 6250))) fun h294 =>
ck (m_t h294 v0 = .inl 12) <|
nn (m_sr h294 v0 81 (some x293)) fun h296 =>
nn (m_n h296) fun x297 =>
nn (m_new h296 (.inr (.boolean, 4))) fun h298 =>
ck (m_t h298 v0 = .inl 12) <|
nn (m_sr h298 v0 82 (some x297)) fun h300 =>
some h300
set_option maxHeartbeats 4000000 in
set_option maxRecDepth 100000 in
theorem ct_X12_init {G : GG} {l : Launch} {v0 : Nat} {h : AH} {y : AH} (hf : f_X12_init G v0 h = some y) : Ct G l yX12_init cX12_init 1 none 1 24 62 25151 [.ref v0] h (none, y) := by
  refine ct_of (by decide) (Nat.le_of_ble_eq_true rfl) ?_
  intro p e s m args below meth c C hm hr hin
  have C : Cx G cX12_init RX12 p s m args meth c := C
  refine e_lv (lv2 := [(0, .ref v0)]) [0] rfl ?_
  unfold f_X12_init at hf
  refine e_aload_n (pc := 0) C dX12_init_0 0 rfl rfl ?_
  refine e_objInit (pc := 1) C dX12_init_1 g1401 g173 g174 (Nat.le_of_ble_eq_true rfl) (Nat.le_of_ble_eq_true rfl) ?_
  refine e_aload_n (pc := 4) C dX12_init_4 0 rfl rfl ?_
  refine e_bipush (v := (17 : Int32)) (pc := 5) C dX12_init_5 (by decide) ?_
  refine e_newi (pc := 7) C dX12_init_7 g220 (by decide) (N := 17) (by decide) (by decide) (Nat.le_of_ble_eq_true rfl) (Nat.le_of_ble_eq_true rfl) ?_
  obtain ⟨x1, ex1, hf⟩ := nn_e hf
  refine e_topr ex1 ?_
  obtain ⟨h2, eh2, hf⟩ := nn_e hf
  refine e_hp eh2 ?_
  refine e_dup (pc := 9) C dX12_init_9 rfl ?_
  refine e_iconst (v := (0 : Int32)) (pc := 10) C dX12_init_10 (by decide) ?_
  refine e_iconst (v := (0 : Int32)) (pc := 11) C dX12_init_11 (by decide) ?_
  obtain ⟨q3, hf⟩ := ck_e hf
  obtain ⟨n4, tn4, in4⟩ := ix_e q3
  refine e_iast (pc := 12) C dX12_init_12 tn4 in4 ?_
  obtain ⟨h5, eh5, hf⟩ := nn_e hf
  refine e_hp eh5 ?_
  have uh5 : m_t h5 = m_t h2 := by rw [eh5]; exact rfl
  refine e_dup (pc := 13) C dX12_init_13 rfl ?_
  refine e_iconst (v := (1 : Int32)) (pc := 14) C dX12_init_14 (by decide) ?_
  refine e_iconst (v := (0 : Int32)) (pc := 15) C dX12_init_15 (by decide) ?_
  obtain ⟨q6, hf⟩ := ck_e hf
  obtain ⟨n7, tn7, in7⟩ := ix_e q6
  refine e_iast (pc := 16) C dX12_init_16 tn7 in7 ?_
  obtain ⟨h8, eh8, hf⟩ := nn_e hf
  refine e_hp eh8 ?_
  have uh8 : m_t h8 = m_t h2 := by rw [eh8]; exact uh5
  refine e_dup (pc := 17) C dX12_init_17 rfl ?_
  refine e_iconst (v := (2 : Int32)) (pc := 18) C dX12_init_18 (by decide) ?_
  refine e_iconst (v := (0 : Int32)) (pc := 19) C dX12_init_19 (by decide) ?_
  obtain ⟨q9, hf⟩ := ck_e hf
  obtain ⟨n10, tn10, in10⟩ := ix_e q9
  refine e_iast (pc := 20) C dX12_init_20 tn10 in10 ?_
  obtain ⟨h11, eh11, hf⟩ := nn_e hf
  refine e_hp eh11 ?_
  have uh11 : m_t h11 = m_t h2 := by rw [eh11]; exact uh8
  refine e_dup (pc := 21) C dX12_init_21 rfl ?_
  refine e_iconst (v := (3 : Int32)) (pc := 22) C dX12_init_22 (by decide) ?_
  refine e_iconst (v := (0 : Int32)) (pc := 23) C dX12_init_23 (by decide) ?_
  obtain ⟨q12, hf⟩ := ck_e hf
  obtain ⟨n13, tn13, in13⟩ := ix_e q12
  refine e_iast (pc := 24) C dX12_init_24 tn13 in13 ?_
  obtain ⟨h14, eh14, hf⟩ := nn_e hf
  refine e_hp eh14 ?_
  have uh14 : m_t h14 = m_t h2 := by rw [eh14]; exact uh11
  refine e_dup (pc := 25) C dX12_init_25 rfl ?_
  refine e_iconst (v := (4 : Int32)) (pc := 26) C dX12_init_26 (by decide) ?_
  refine e_iconst (v := (0 : Int32)) (pc := 27) C dX12_init_27 (by decide) ?_
  obtain ⟨q15, hf⟩ := ck_e hf
  obtain ⟨n16, tn16, in16⟩ := ix_e q15
  refine e_iast (pc := 28) C dX12_init_28 tn16 in16 ?_
  obtain ⟨h17, eh17, hf⟩ := nn_e hf
  refine e_hp eh17 ?_
  have uh17 : m_t h17 = m_t h2 := by rw [eh17]; exact uh14
  refine e_dup (pc := 29) C dX12_init_29 rfl ?_
  refine e_iconst (v := (5 : Int32)) (pc := 30) C dX12_init_30 (by decide) ?_
  refine e_iconst (v := (0 : Int32)) (pc := 31) C dX12_init_31 (by decide) ?_
  obtain ⟨q18, hf⟩ := ck_e hf
  obtain ⟨n19, tn19, in19⟩ := ix_e q18
  refine e_iast (pc := 32) C dX12_init_32 tn19 in19 ?_
  obtain ⟨h20, eh20, hf⟩ := nn_e hf
  refine e_hp eh20 ?_
  have uh20 : m_t h20 = m_t h2 := by rw [eh20]; exact uh17
  refine e_dup (pc := 33) C dX12_init_33 rfl ?_
  refine e_bipush (v := (6 : Int32)) (pc := 34) C dX12_init_34 (by decide) ?_
  refine e_iconst (v := (0 : Int32)) (pc := 36) C dX12_init_36 (by decide) ?_
  obtain ⟨q21, hf⟩ := ck_e hf
  obtain ⟨n22, tn22, in22⟩ := ix_e q21
  refine e_iast (pc := 37) C dX12_init_37 tn22 in22 ?_
  obtain ⟨h23, eh23, hf⟩ := nn_e hf
  refine e_hp eh23 ?_
  have uh23 : m_t h23 = m_t h2 := by rw [eh23]; exact uh20
  refine e_dup (pc := 38) C dX12_init_38 rfl ?_
  refine e_bipush (v := (7 : Int32)) (pc := 39) C dX12_init_39 (by decide) ?_
  refine e_iconst (v := (0 : Int32)) (pc := 41) C dX12_init_41 (by decide) ?_
  obtain ⟨q24, hf⟩ := ck_e hf
  obtain ⟨n25, tn25, in25⟩ := ix_e q24
  refine e_iast (pc := 42) C dX12_init_42 tn25 in25 ?_
  obtain ⟨h26, eh26, hf⟩ := nn_e hf
  refine e_hp eh26 ?_
  have uh26 : m_t h26 = m_t h2 := by rw [eh26]; exact uh23
  refine e_dup (pc := 43) C dX12_init_43 rfl ?_
  refine e_bipush (v := (8 : Int32)) (pc := 44) C dX12_init_44 (by decide) ?_
  refine e_iconst (v := (0 : Int32)) (pc := 46) C dX12_init_46 (by decide) ?_
  obtain ⟨q27, hf⟩ := ck_e hf
  obtain ⟨n28, tn28, in28⟩ := ix_e q27
  refine e_iast (pc := 47) C dX12_init_47 tn28 in28 ?_
  obtain ⟨h29, eh29, hf⟩ := nn_e hf
  refine e_hp eh29 ?_
  have uh29 : m_t h29 = m_t h2 := by rw [eh29]; exact uh26
  refine e_dup (pc := 48) C dX12_init_48 rfl ?_
  refine e_bipush (v := (9 : Int32)) (pc := 49) C dX12_init_49 (by decide) ?_
  refine e_iconst (v := (0 : Int32)) (pc := 51) C dX12_init_51 (by decide) ?_
  obtain ⟨q30, hf⟩ := ck_e hf
  obtain ⟨n31, tn31, in31⟩ := ix_e q30
  refine e_iast (pc := 52) C dX12_init_52 tn31 in31 ?_
  obtain ⟨h32, eh32, hf⟩ := nn_e hf
  refine e_hp eh32 ?_
  have uh32 : m_t h32 = m_t h2 := by rw [eh32]; exact uh29
  refine e_dup (pc := 53) C dX12_init_53 rfl ?_
  refine e_bipush (v := (10 : Int32)) (pc := 54) C dX12_init_54 (by decide) ?_
  refine e_iconst (v := (0 : Int32)) (pc := 56) C dX12_init_56 (by decide) ?_
  obtain ⟨q33, hf⟩ := ck_e hf
  obtain ⟨n34, tn34, in34⟩ := ix_e q33
  refine e_iast (pc := 57) C dX12_init_57 tn34 in34 ?_
  obtain ⟨h35, eh35, hf⟩ := nn_e hf
  refine e_hp eh35 ?_
  have uh35 : m_t h35 = m_t h2 := by rw [eh35]; exact uh32
  refine e_dup (pc := 58) C dX12_init_58 rfl ?_
  refine e_bipush (v := (11 : Int32)) (pc := 59) C dX12_init_59 (by decide) ?_
  refine e_iconst (v := (0 : Int32)) (pc := 61) C dX12_init_61 (by decide) ?_
  obtain ⟨q36, hf⟩ := ck_e hf
  obtain ⟨n37, tn37, in37⟩ := ix_e q36
  refine e_iast (pc := 62) C dX12_init_62 tn37 in37 ?_
  obtain ⟨h38, eh38, hf⟩ := nn_e hf
  refine e_hp eh38 ?_
  have uh38 : m_t h38 = m_t h2 := by rw [eh38]; exact uh35
  refine e_dup (pc := 63) C dX12_init_63 rfl ?_
  refine e_bipush (v := (12 : Int32)) (pc := 64) C dX12_init_64 (by decide) ?_
  refine e_iconst (v := (0 : Int32)) (pc := 66) C dX12_init_66 (by decide) ?_
  obtain ⟨q39, hf⟩ := ck_e hf
  obtain ⟨n40, tn40, in40⟩ := ix_e q39
  refine e_iast (pc := 67) C dX12_init_67 tn40 in40 ?_
  obtain ⟨h41, eh41, hf⟩ := nn_e hf
  refine e_hp eh41 ?_
  have uh41 : m_t h41 = m_t h2 := by rw [eh41]; exact uh38
  refine e_dup (pc := 68) C dX12_init_68 rfl ?_
  refine e_bipush (v := (13 : Int32)) (pc := 69) C dX12_init_69 (by decide) ?_
  refine e_iconst (v := (0 : Int32)) (pc := 71) C dX12_init_71 (by decide) ?_
  obtain ⟨q42, hf⟩ := ck_e hf
  obtain ⟨n43, tn43, in43⟩ := ix_e q42
  refine e_iast (pc := 72) C dX12_init_72 tn43 in43 ?_
  obtain ⟨h44, eh44, hf⟩ := nn_e hf
  refine e_hp eh44 ?_
  have uh44 : m_t h44 = m_t h2 := by rw [eh44]; exact uh41
  refine e_dup (pc := 73) C dX12_init_73 rfl ?_
  refine e_bipush (v := (14 : Int32)) (pc := 74) C dX12_init_74 (by decide) ?_
  refine e_iconst (v := (0 : Int32)) (pc := 76) C dX12_init_76 (by decide) ?_
  obtain ⟨q45, hf⟩ := ck_e hf
  obtain ⟨n46, tn46, in46⟩ := ix_e q45
  refine e_iast (pc := 77) C dX12_init_77 tn46 in46 ?_
  obtain ⟨h47, eh47, hf⟩ := nn_e hf
  refine e_hp eh47 ?_
  have uh47 : m_t h47 = m_t h2 := by rw [eh47]; exact uh44
  refine e_dup (pc := 78) C dX12_init_78 rfl ?_
  refine e_bipush (v := (15 : Int32)) (pc := 79) C dX12_init_79 (by decide) ?_
  refine e_iconst (v := (0 : Int32)) (pc := 81) C dX12_init_81 (by decide) ?_
  obtain ⟨q48, hf⟩ := ck_e hf
  obtain ⟨n49, tn49, in49⟩ := ix_e q48
  refine e_iast (pc := 82) C dX12_init_82 tn49 in49 ?_
  obtain ⟨h50, eh50, hf⟩ := nn_e hf
  refine e_hp eh50 ?_
  have uh50 : m_t h50 = m_t h2 := by rw [eh50]; exact uh47
  refine e_dup (pc := 83) C dX12_init_83 rfl ?_
  refine e_bipush (v := (16 : Int32)) (pc := 84) C dX12_init_84 (by decide) ?_
  refine e_iconst (v := (-1 : Int32)) (pc := 86) C dX12_init_86 (by decide) ?_
  obtain ⟨q51, hf⟩ := ck_e hf
  obtain ⟨n52, tn52, in52⟩ := ix_e q51
  refine e_iast (pc := 87) C dX12_init_87 tn52 in52 ?_
  obtain ⟨h53, eh53, hf⟩ := nn_e hf
  refine e_hp eh53 ?_
  have uh53 : m_t h53 = m_t h2 := by rw [eh53]; exact uh50
  obtain ⟨t54, hf⟩ := ck_e hf
  refine e_putrF (pc := 88) (x := some x1) 12 1 C hin dX12_init_88 (by decide) (by decide) g1402 rfl rfl rfl rfl rfl t54 ?_
  obtain ⟨h55, eh55, hf⟩ := nn_e hf
  refine e_hp eh55 ?_
  have uh55 : m_t h55 = m_t h2 := by rw [eh55]; exact uh53
  refine e_aload_n (pc := 91) C dX12_init_91 0 rfl rfl ?_
  refine e_bipush (v := (7 : Int32)) (pc := 92) C dX12_init_92 (by decide) ?_
  refine e_newi (pc := 94) C dX12_init_94 g220 (by decide) (N := 7) (by decide) (by decide) (Nat.le_of_ble_eq_true rfl) (Nat.le_of_ble_eq_true rfl) ?_
  obtain ⟨x56, ex56, hf⟩ := nn_e hf
  refine e_topr ex56 ?_
  obtain ⟨h57, eh57, hf⟩ := nn_e hf
  refine e_hp eh57 ?_
  obtain ⟨t58, hf⟩ := ck_e hf
  refine e_putrF (pc := 96) (x := some x56) 12 2 C hin dX12_init_96 (by decide) (by decide) g1403 rfl rfl rfl rfl rfl t58 ?_
  obtain ⟨h59, eh59, hf⟩ := nn_e hf
  refine e_hp eh59 ?_
  have uh59 : m_t h59 = m_t h57 := by rw [eh59]; exact rfl
  refine e_aload_n (pc := 99) C dX12_init_99 0 rfl rfl ?_
  refine e_bipush (v := (8 : Int32)) (pc := 100) C dX12_init_100 (by decide) ?_
  refine e_newi (pc := 102) C dX12_init_102 g220 (by decide) (N := 8) (by decide) (by decide) (Nat.le_of_ble_eq_true rfl) (Nat.le_of_ble_eq_true rfl) ?_
  obtain ⟨x60, ex60, hf⟩ := nn_e hf
  refine e_topr ex60 ?_
  obtain ⟨h61, eh61, hf⟩ := nn_e hf
  refine e_hp eh61 ?_
  obtain ⟨t62, hf⟩ := ck_e hf
  refine e_putrF (pc := 104) (x := some x60) 12 3 C hin dX12_init_104 (by decide) (by decide) g1404 rfl rfl rfl rfl rfl t62 ?_
  obtain ⟨h63, eh63, hf⟩ := nn_e hf
  refine e_hp eh63 ?_
  have uh63 : m_t h63 = m_t h61 := by rw [eh63]; exact rfl
  refine e_aload_n (pc := 107) C dX12_init_107 0 rfl rfl ?_
  refine e_bipush (v := (8 : Int32)) (pc := 108) C dX12_init_108 (by decide) ?_
  refine e_newi (pc := 110) C dX12_init_110 g220 (by decide) (N := 8) (by decide) (by decide) (Nat.le_of_ble_eq_true rfl) (Nat.le_of_ble_eq_true rfl) ?_
  obtain ⟨x64, ex64, hf⟩ := nn_e hf
  refine e_topr ex64 ?_
  obtain ⟨h65, eh65, hf⟩ := nn_e hf
  refine e_hp eh65 ?_
  obtain ⟨t66, hf⟩ := ck_e hf
  refine e_putrF (pc := 112) (x := some x64) 12 4 C hin dX12_init_112 (by decide) (by decide) g1405 rfl rfl rfl rfl rfl t66 ?_
  obtain ⟨h67, eh67, hf⟩ := nn_e hf
  refine e_hp eh67 ?_
  have uh67 : m_t h67 = m_t h65 := by rw [eh67]; exact rfl
  refine e_aload_n (pc := 115) C dX12_init_115 0 rfl rfl ?_
  refine e_bipush (v := (8 : Int32)) (pc := 116) C dX12_init_116 (by decide) ?_
  refine e_newi (pc := 118) C dX12_init_118 g220 (by decide) (N := 8) (by decide) (by decide) (Nat.le_of_ble_eq_true rfl) (Nat.le_of_ble_eq_true rfl) ?_
  obtain ⟨x68, ex68, hf⟩ := nn_e hf
  refine e_topr ex68 ?_
  obtain ⟨h69, eh69, hf⟩ := nn_e hf
  refine e_hp eh69 ?_
  obtain ⟨t70, hf⟩ := ck_e hf
  refine e_putrF (pc := 120) (x := some x68) 12 5 C hin dX12_init_120 (by decide) (by decide) g1406 rfl rfl rfl rfl rfl t70 ?_
  obtain ⟨h71, eh71, hf⟩ := nn_e hf
  refine e_hp eh71 ?_
  have uh71 : m_t h71 = m_t h69 := by rw [eh71]; exact rfl
  refine e_aload_n (pc := 123) C dX12_init_123 0 rfl rfl ?_
  refine e_bipush (v := (8 : Int32)) (pc := 124) C dX12_init_124 (by decide) ?_
  refine e_newi (pc := 126) C dX12_init_126 g220 (by decide) (N := 8) (by decide) (by decide) (Nat.le_of_ble_eq_true rfl) (Nat.le_of_ble_eq_true rfl) ?_
  obtain ⟨x72, ex72, hf⟩ := nn_e hf
  refine e_topr ex72 ?_
  obtain ⟨h73, eh73, hf⟩ := nn_e hf
  refine e_hp eh73 ?_
  obtain ⟨t74, hf⟩ := ck_e hf
  refine e_putrF (pc := 128) (x := some x72) 12 6 C hin dX12_init_128 (by decide) (by decide) g1407 rfl rfl rfl rfl rfl t74 ?_
  obtain ⟨h75, eh75, hf⟩ := nn_e hf
  refine e_hp eh75 ?_
  have uh75 : m_t h75 = m_t h73 := by rw [eh75]; exact rfl
  refine e_aload_n (pc := 131) C dX12_init_131 0 rfl rfl ?_
  refine e_bipush (v := (8 : Int32)) (pc := 132) C dX12_init_132 (by decide) ?_
  refine e_newi (pc := 134) C dX12_init_134 g220 (by decide) (N := 8) (by decide) (by decide) (Nat.le_of_ble_eq_true rfl) (Nat.le_of_ble_eq_true rfl) ?_
  obtain ⟨x76, ex76, hf⟩ := nn_e hf
  refine e_topr ex76 ?_
  obtain ⟨h77, eh77, hf⟩ := nn_e hf
  refine e_hp eh77 ?_
  obtain ⟨t78, hf⟩ := ck_e hf
  refine e_putrF (pc := 136) (x := some x76) 12 7 C hin dX12_init_136 (by decide) (by decide) g1408 rfl rfl rfl rfl rfl t78 ?_
  obtain ⟨h79, eh79, hf⟩ := nn_e hf
  refine e_hp eh79 ?_
  have uh79 : m_t h79 = m_t h77 := by rw [eh79]; exact rfl
  refine e_aload_n (pc := 139) C dX12_init_139 0 rfl rfl ?_
  refine e_bipush (v := (8 : Int32)) (pc := 140) C dX12_init_140 (by decide) ?_
  refine e_newi (pc := 142) C dX12_init_142 g220 (by decide) (N := 8) (by decide) (by decide) (Nat.le_of_ble_eq_true rfl) (Nat.le_of_ble_eq_true rfl) ?_
  obtain ⟨x80, ex80, hf⟩ := nn_e hf
  refine e_topr ex80 ?_
  obtain ⟨h81, eh81, hf⟩ := nn_e hf
  refine e_hp eh81 ?_
  obtain ⟨t82, hf⟩ := ck_e hf
  refine e_putrF (pc := 144) (x := some x80) 12 8 C hin dX12_init_144 (by decide) (by decide) g1409 rfl rfl rfl rfl rfl t82 ?_
  obtain ⟨h83, eh83, hf⟩ := nn_e hf
  refine e_hp eh83 ?_
  have uh83 : m_t h83 = m_t h81 := by rw [eh83]; exact rfl
  refine e_aload_n (pc := 147) C dX12_init_147 0 rfl rfl ?_
  refine e_bipush (v := (8 : Int32)) (pc := 148) C dX12_init_148 (by decide) ?_
  refine e_newi (pc := 150) C dX12_init_150 g220 (by decide) (N := 8) (by decide) (by decide) (Nat.le_of_ble_eq_true rfl) (Nat.le_of_ble_eq_true rfl) ?_
  obtain ⟨x84, ex84, hf⟩ := nn_e hf
  refine e_topr ex84 ?_
  obtain ⟨h85, eh85, hf⟩ := nn_e hf
  refine e_hp eh85 ?_
  obtain ⟨t86, hf⟩ := ck_e hf
  refine e_putrF (pc := 152) (x := some x84) 12 9 C hin dX12_init_152 (by decide) (by decide) g1410 rfl rfl rfl rfl rfl t86 ?_
  obtain ⟨h87, eh87, hf⟩ := nn_e hf
  refine e_hp eh87 ?_
  have uh87 : m_t h87 = m_t h85 := by rw [eh87]; exact rfl
  refine e_aload_n (pc := 155) C dX12_init_155 0 rfl rfl ?_
  refine e_bipush (v := (8 : Int32)) (pc := 156) C dX12_init_156 (by decide) ?_
  refine e_newi (pc := 158) C dX12_init_158 g220 (by decide) (N := 8) (by decide) (by decide) (Nat.le_of_ble_eq_true rfl) (Nat.le_of_ble_eq_true rfl) ?_
  obtain ⟨x88, ex88, hf⟩ := nn_e hf
  refine e_topr ex88 ?_
  obtain ⟨h89, eh89, hf⟩ := nn_e hf
  refine e_hp eh89 ?_
  obtain ⟨t90, hf⟩ := ck_e hf
  refine e_putrF (pc := 160) (x := some x88) 12 10 C hin dX12_init_160 (by decide) (by decide) g1411 rfl rfl rfl rfl rfl t90 ?_
  obtain ⟨h91, eh91, hf⟩ := nn_e hf
  refine e_hp eh91 ?_
  have uh91 : m_t h91 = m_t h89 := by rw [eh91]; exact rfl
  refine e_aload_n (pc := 163) C dX12_init_163 0 rfl rfl ?_
  refine e_bipush (v := (8 : Int32)) (pc := 164) C dX12_init_164 (by decide) ?_
  refine e_newi (pc := 166) C dX12_init_166 g220 (by decide) (N := 8) (by decide) (by decide) (Nat.le_of_ble_eq_true rfl) (Nat.le_of_ble_eq_true rfl) ?_
  obtain ⟨x92, ex92, hf⟩ := nn_e hf
  refine e_topr ex92 ?_
  obtain ⟨h93, eh93, hf⟩ := nn_e hf
  refine e_hp eh93 ?_
  obtain ⟨t94, hf⟩ := ck_e hf
  refine e_putrF (pc := 168) (x := some x92) 12 11 C hin dX12_init_168 (by decide) (by decide) g1412 rfl rfl rfl rfl rfl t94 ?_
  obtain ⟨h95, eh95, hf⟩ := nn_e hf
  refine e_hp eh95 ?_
  have uh95 : m_t h95 = m_t h93 := by rw [eh95]; exact rfl
  refine e_aload_n (pc := 171) C dX12_init_171 0 rfl rfl ?_
  refine e_bipush (v := (8 : Int32)) (pc := 172) C dX12_init_172 (by decide) ?_
  refine e_newi (pc := 174) C dX12_init_174 g220 (by decide) (N := 8) (by decide) (by decide) (Nat.le_of_ble_eq_true rfl) (Nat.le_of_ble_eq_true rfl) ?_
  obtain ⟨x96, ex96, hf⟩ := nn_e hf
  refine e_topr ex96 ?_
  obtain ⟨h97, eh97, hf⟩ := nn_e hf
  refine e_hp eh97 ?_
  obtain ⟨t98, hf⟩ := ck_e hf
  refine e_putrF (pc := 176) (x := some x96) 12 12 C hin dX12_init_176 (by decide) (by decide) g1413 rfl rfl rfl rfl rfl t98 ?_
  obtain ⟨h99, eh99, hf⟩ := nn_e hf
  refine e_hp eh99 ?_
  have uh99 : m_t h99 = m_t h97 := by rw [eh99]; exact rfl
  refine e_aload_n (pc := 179) C dX12_init_179 0 rfl rfl ?_
  refine e_iconst (v := (5 : Int32)) (pc := 180) C dX12_init_180 (by decide) ?_
  refine e_newi (pc := 181) C dX12_init_181 g220 (by decide) (N := 5) (by decide) (by decide) (Nat.le_of_ble_eq_true rfl) (Nat.le_of_ble_eq_true rfl) ?_
  obtain ⟨x100, ex100, hf⟩ := nn_e hf
  refine e_topr ex100 ?_
  obtain ⟨h101, eh101, hf⟩ := nn_e hf
  refine e_hp eh101 ?_
  obtain ⟨t102, hf⟩ := ck_e hf
  refine e_putrF (pc := 183) (x := some x100) 12 13 C hin dX12_init_183 (by decide) (by decide) g1414 rfl rfl rfl rfl rfl t102 ?_
  obtain ⟨h103, eh103, hf⟩ := nn_e hf
  refine e_hp eh103 ?_
  have uh103 : m_t h103 = m_t h101 := by rw [eh103]; exact rfl
  refine e_aload_n (pc := 186) C dX12_init_186 0 rfl rfl ?_
  refine e_iconst (v := (5 : Int32)) (pc := 187) C dX12_init_187 (by decide) ?_
  refine e_newi (pc := 188) C dX12_init_188 g220 (by decide) (N := 5) (by decide) (by decide) (Nat.le_of_ble_eq_true rfl) (Nat.le_of_ble_eq_true rfl) ?_
  obtain ⟨x104, ex104, hf⟩ := nn_e hf
  refine e_topr ex104 ?_
  obtain ⟨h105, eh105, hf⟩ := nn_e hf
  refine e_hp eh105 ?_
  obtain ⟨t106, hf⟩ := ck_e hf
  refine e_putrF (pc := 190) (x := some x104) 12 14 C hin dX12_init_190 (by decide) (by decide) g1415 rfl rfl rfl rfl rfl t106 ?_
  obtain ⟨h107, eh107, hf⟩ := nn_e hf
  refine e_hp eh107 ?_
  have uh107 : m_t h107 = m_t h105 := by rw [eh107]; exact rfl
  refine e_aload_n (pc := 193) C dX12_init_193 0 rfl rfl ?_
  refine e_iconst (v := (5 : Int32)) (pc := 194) C dX12_init_194 (by decide) ?_
  refine e_newi (pc := 195) C dX12_init_195 g220 (by decide) (N := 5) (by decide) (by decide) (Nat.le_of_ble_eq_true rfl) (Nat.le_of_ble_eq_true rfl) ?_
  obtain ⟨x108, ex108, hf⟩ := nn_e hf
  refine e_topr ex108 ?_
  obtain ⟨h109, eh109, hf⟩ := nn_e hf
  refine e_hp eh109 ?_
  obtain ⟨t110, hf⟩ := ck_e hf
  refine e_putrF (pc := 197) (x := some x108) 12 15 C hin dX12_init_197 (by decide) (by decide) g1416 rfl rfl rfl rfl rfl t110 ?_
  obtain ⟨h111, eh111, hf⟩ := nn_e hf
  refine e_hp eh111 ?_
  have uh111 : m_t h111 = m_t h109 := by rw [eh111]; exact rfl
  refine e_aload_n (pc := 200) C dX12_init_200 0 rfl rfl ?_
  refine e_iconst (v := (5 : Int32)) (pc := 201) C dX12_init_201 (by decide) ?_
  refine e_newi (pc := 202) C dX12_init_202 g220 (by decide) (N := 5) (by decide) (by decide) (Nat.le_of_ble_eq_true rfl) (Nat.le_of_ble_eq_true rfl) ?_
  obtain ⟨x112, ex112, hf⟩ := nn_e hf
  refine e_topr ex112 ?_
  obtain ⟨h113, eh113, hf⟩ := nn_e hf
  refine e_hp eh113 ?_
  obtain ⟨t114, hf⟩ := ck_e hf
  refine e_putrF (pc := 204) (x := some x112) 12 16 C hin dX12_init_204 (by decide) (by decide) g1417 rfl rfl rfl rfl rfl t114 ?_
  obtain ⟨h115, eh115, hf⟩ := nn_e hf
  refine e_hp eh115 ?_
  have uh115 : m_t h115 = m_t h113 := by rw [eh115]; exact rfl
  refine e_aload_n (pc := 207) C dX12_init_207 0 rfl rfl ?_
  refine e_iconst (v := (5 : Int32)) (pc := 208) C dX12_init_208 (by decide) ?_
  refine e_newi (pc := 209) C dX12_init_209 g220 (by decide) (N := 5) (by decide) (by decide) (Nat.le_of_ble_eq_true rfl) (Nat.le_of_ble_eq_true rfl) ?_
  obtain ⟨x116, ex116, hf⟩ := nn_e hf
  refine e_topr ex116 ?_
  obtain ⟨h117, eh117, hf⟩ := nn_e hf
  refine e_hp eh117 ?_
  obtain ⟨t118, hf⟩ := ck_e hf
  refine e_putrF (pc := 211) (x := some x116) 12 17 C hin dX12_init_211 (by decide) (by decide) g1418 rfl rfl rfl rfl rfl t118 ?_
  obtain ⟨h119, eh119, hf⟩ := nn_e hf
  refine e_hp eh119 ?_
  have uh119 : m_t h119 = m_t h117 := by rw [eh119]; exact rfl
  refine e_aload_n (pc := 214) C dX12_init_214 0 rfl rfl ?_
  refine e_bipush (v := (10 : Int32)) (pc := 215) C dX12_init_215 (by decide) ?_
  refine e_newi (pc := 217) C dX12_init_217 g220 (by decide) (N := 10) (by decide) (by decide) (Nat.le_of_ble_eq_true rfl) (Nat.le_of_ble_eq_true rfl) ?_
  obtain ⟨x120, ex120, hf⟩ := nn_e hf
  refine e_topr ex120 ?_
  obtain ⟨h121, eh121, hf⟩ := nn_e hf
  refine e_hp eh121 ?_
  obtain ⟨t122, hf⟩ := ck_e hf
  refine e_putrF (pc := 219) (x := some x120) 12 18 C hin dX12_init_219 (by decide) (by decide) g1419 rfl rfl rfl rfl rfl t122 ?_
  obtain ⟨h123, eh123, hf⟩ := nn_e hf
  refine e_hp eh123 ?_
  have uh123 : m_t h123 = m_t h121 := by rw [eh123]; exact rfl
  refine e_aload_n (pc := 222) C dX12_init_222 0 rfl rfl ?_
  refine e_bipush (v := (10 : Int32)) (pc := 223) C dX12_init_223 (by decide) ?_
  refine e_newi (pc := 225) C dX12_init_225 g220 (by decide) (N := 10) (by decide) (by decide) (Nat.le_of_ble_eq_true rfl) (Nat.le_of_ble_eq_true rfl) ?_
  obtain ⟨x124, ex124, hf⟩ := nn_e hf
  refine e_topr ex124 ?_
  obtain ⟨h125, eh125, hf⟩ := nn_e hf
  refine e_hp eh125 ?_
  obtain ⟨t126, hf⟩ := ck_e hf
  refine e_putrF (pc := 227) (x := some x124) 12 19 C hin dX12_init_227 (by decide) (by decide) g1420 rfl rfl rfl rfl rfl t126 ?_
  obtain ⟨h127, eh127, hf⟩ := nn_e hf
  refine e_hp eh127 ?_
  have uh127 : m_t h127 = m_t h125 := by rw [eh127]; exact rfl
  refine e_aload_n (pc := 230) C dX12_init_230 0 rfl rfl ?_
  refine e_bipush (v := (10 : Int32)) (pc := 231) C dX12_init_231 (by decide) ?_
  refine e_newi (pc := 233) C dX12_init_233 g220 (by decide) (N := 10) (by decide) (by decide) (Nat.le_of_ble_eq_true rfl) (Nat.le_of_ble_eq_true rfl) ?_
  obtain ⟨x128, ex128, hf⟩ := nn_e hf
  refine e_topr ex128 ?_
  obtain ⟨h129, eh129, hf⟩ := nn_e hf
  refine e_hp eh129 ?_
  obtain ⟨t130, hf⟩ := ck_e hf
  refine e_putrF (pc := 235) (x := some x128) 12 20 C hin dX12_init_235 (by decide) (by decide) g1421 rfl rfl rfl rfl rfl t130 ?_
  obtain ⟨h131, eh131, hf⟩ := nn_e hf
  refine e_hp eh131 ?_
  have uh131 : m_t h131 = m_t h129 := by rw [eh131]; exact rfl
  refine e_aload_n (pc := 238) C dX12_init_238 0 rfl rfl ?_
  refine e_bipush (v := (8 : Int32)) (pc := 239) C dX12_init_239 (by decide) ?_
  refine e_newi (pc := 241) C dX12_init_241 g220 (by decide) (N := 8) (by decide) (by decide) (Nat.le_of_ble_eq_true rfl) (Nat.le_of_ble_eq_true rfl) ?_
  obtain ⟨x132, ex132, hf⟩ := nn_e hf
  refine e_topr ex132 ?_
  obtain ⟨h133, eh133, hf⟩ := nn_e hf
  refine e_hp eh133 ?_
  obtain ⟨t134, hf⟩ := ck_e hf
  refine e_putrF (pc := 243) (x := some x132) 12 21 C hin dX12_init_243 (by decide) (by decide) g1422 rfl rfl rfl rfl rfl t134 ?_
  obtain ⟨h135, eh135, hf⟩ := nn_e hf
  refine e_hp eh135 ?_
  have uh135 : m_t h135 = m_t h133 := by rw [eh135]; exact rfl
  refine e_aload_n (pc := 246) C dX12_init_246 0 rfl rfl ?_
  refine e_bipush (v := (8 : Int32)) (pc := 247) C dX12_init_247 (by decide) ?_
  refine e_newi (pc := 249) C dX12_init_249 g220 (by decide) (N := 8) (by decide) (by decide) (Nat.le_of_ble_eq_true rfl) (Nat.le_of_ble_eq_true rfl) ?_
  obtain ⟨x136, ex136, hf⟩ := nn_e hf
  refine e_topr ex136 ?_
  obtain ⟨h137, eh137, hf⟩ := nn_e hf
  refine e_hp eh137 ?_
  obtain ⟨t138, hf⟩ := ck_e hf
  refine e_putrF (pc := 251) (x := some x136) 12 22 C hin dX12_init_251 (by decide) (by decide) g1423 rfl rfl rfl rfl rfl t138 ?_
  obtain ⟨h139, eh139, hf⟩ := nn_e hf
  refine e_hp eh139 ?_
  have uh139 : m_t h139 = m_t h137 := by rw [eh139]; exact rfl
  refine e_aload_n (pc := 254) C dX12_init_254 0 rfl rfl ?_
  refine e_bipush (v := (8 : Int32)) (pc := 255) C dX12_init_255 (by decide) ?_
  refine e_newi (pc := 257) C dX12_init_257 g220 (by decide) (N := 8) (by decide) (by decide) (Nat.le_of_ble_eq_true rfl) (Nat.le_of_ble_eq_true rfl) ?_
  obtain ⟨x140, ex140, hf⟩ := nn_e hf
  refine e_topr ex140 ?_
  obtain ⟨h141, eh141, hf⟩ := nn_e hf
  refine e_hp eh141 ?_
  obtain ⟨t142, hf⟩ := ck_e hf
  refine e_putrF (pc := 259) (x := some x140) 12 23 C hin dX12_init_259 (by decide) (by decide) g1424 rfl rfl rfl rfl rfl t142 ?_
  obtain ⟨h143, eh143, hf⟩ := nn_e hf
  refine e_hp eh143 ?_
  have uh143 : m_t h143 = m_t h141 := by rw [eh143]; exact rfl
  refine e_aload_n (pc := 262) C dX12_init_262 0 rfl rfl ?_
  refine e_bipush (v := (8 : Int32)) (pc := 263) C dX12_init_263 (by decide) ?_
  refine e_newi (pc := 265) C dX12_init_265 g220 (by decide) (N := 8) (by decide) (by decide) (Nat.le_of_ble_eq_true rfl) (Nat.le_of_ble_eq_true rfl) ?_
  obtain ⟨x144, ex144, hf⟩ := nn_e hf
  refine e_topr ex144 ?_
  obtain ⟨h145, eh145, hf⟩ := nn_e hf
  refine e_hp eh145 ?_
  obtain ⟨t146, hf⟩ := ck_e hf
  refine e_putrF (pc := 267) (x := some x144) 12 24 C hin dX12_init_267 (by decide) (by decide) g1425 rfl rfl rfl rfl rfl t146 ?_
  obtain ⟨h147, eh147, hf⟩ := nn_e hf
  refine e_hp eh147 ?_
  have uh147 : m_t h147 = m_t h145 := by rw [eh147]; exact rfl
  refine e_aload_n (pc := 270) C dX12_init_270 0 rfl rfl ?_
  refine e_bipush (v := (8 : Int32)) (pc := 271) C dX12_init_271 (by decide) ?_
  refine e_newi (pc := 273) C dX12_init_273 g220 (by decide) (N := 8) (by decide) (by decide) (Nat.le_of_ble_eq_true rfl) (Nat.le_of_ble_eq_true rfl) ?_
  obtain ⟨x148, ex148, hf⟩ := nn_e hf
  refine e_topr ex148 ?_
  obtain ⟨h149, eh149, hf⟩ := nn_e hf
  refine e_hp eh149 ?_
  obtain ⟨t150, hf⟩ := ck_e hf
  refine e_putrF (pc := 275) (x := some x148) 12 25 C hin dX12_init_275 (by decide) (by decide) g1426 rfl rfl rfl rfl rfl t150 ?_
  obtain ⟨h151, eh151, hf⟩ := nn_e hf
  refine e_hp eh151 ?_
  have uh151 : m_t h151 = m_t h149 := by rw [eh151]; exact rfl
  refine e_aload_n (pc := 278) C dX12_init_278 0 rfl rfl ?_
  refine e_bipush (v := (8 : Int32)) (pc := 279) C dX12_init_279 (by decide) ?_
  refine e_newi (pc := 281) C dX12_init_281 g220 (by decide) (N := 8) (by decide) (by decide) (Nat.le_of_ble_eq_true rfl) (Nat.le_of_ble_eq_true rfl) ?_
  obtain ⟨x152, ex152, hf⟩ := nn_e hf
  refine e_topr ex152 ?_
  obtain ⟨h153, eh153, hf⟩ := nn_e hf
  refine e_hp eh153 ?_
  obtain ⟨t154, hf⟩ := ck_e hf
  refine e_putrF (pc := 283) (x := some x152) 12 26 C hin dX12_init_283 (by decide) (by decide) g1427 rfl rfl rfl rfl rfl t154 ?_
  obtain ⟨h155, eh155, hf⟩ := nn_e hf
  refine e_hp eh155 ?_
  have uh155 : m_t h155 = m_t h153 := by rw [eh155]; exact rfl
  refine e_aload_n (pc := 286) C dX12_init_286 0 rfl rfl ?_
  refine e_iconst (v := (5 : Int32)) (pc := 287) C dX12_init_287 (by decide) ?_
  refine e_newi (pc := 288) C dX12_init_288 g220 (by decide) (N := 5) (by decide) (by decide) (Nat.le_of_ble_eq_true rfl) (Nat.le_of_ble_eq_true rfl) ?_
  obtain ⟨x156, ex156, hf⟩ := nn_e hf
  refine e_topr ex156 ?_
  obtain ⟨h157, eh157, hf⟩ := nn_e hf
  refine e_hp eh157 ?_
  obtain ⟨t158, hf⟩ := ck_e hf
  refine e_putrF (pc := 290) (x := some x156) 12 27 C hin dX12_init_290 (by decide) (by decide) g1428 rfl rfl rfl rfl rfl t158 ?_
  obtain ⟨h159, eh159, hf⟩ := nn_e hf
  refine e_hp eh159 ?_
  have uh159 : m_t h159 = m_t h157 := by rw [eh159]; exact rfl
  refine e_aload_n (pc := 293) C dX12_init_293 0 rfl rfl ?_
  refine e_iconst (v := (5 : Int32)) (pc := 294) C dX12_init_294 (by decide) ?_
  refine e_newi (pc := 295) C dX12_init_295 g220 (by decide) (N := 5) (by decide) (by decide) (Nat.le_of_ble_eq_true rfl) (Nat.le_of_ble_eq_true rfl) ?_
  obtain ⟨x160, ex160, hf⟩ := nn_e hf
  refine e_topr ex160 ?_
  obtain ⟨h161, eh161, hf⟩ := nn_e hf
  refine e_hp eh161 ?_
  obtain ⟨t162, hf⟩ := ck_e hf
  refine e_putrF (pc := 297) (x := some x160) 12 28 C hin dX12_init_297 (by decide) (by decide) g1429 rfl rfl rfl rfl rfl t162 ?_
  obtain ⟨h163, eh163, hf⟩ := nn_e hf
  refine e_hp eh163 ?_
  have uh163 : m_t h163 = m_t h161 := by rw [eh163]; exact rfl
  refine e_aload_n (pc := 300) C dX12_init_300 0 rfl rfl ?_
  refine e_iconst (v := (5 : Int32)) (pc := 301) C dX12_init_301 (by decide) ?_
  refine e_newi (pc := 302) C dX12_init_302 g220 (by decide) (N := 5) (by decide) (by decide) (Nat.le_of_ble_eq_true rfl) (Nat.le_of_ble_eq_true rfl) ?_
  obtain ⟨x164, ex164, hf⟩ := nn_e hf
  refine e_topr ex164 ?_
  obtain ⟨h165, eh165, hf⟩ := nn_e hf
  refine e_hp eh165 ?_
  obtain ⟨t166, hf⟩ := ck_e hf
  refine e_putrF (pc := 304) (x := some x164) 12 29 C hin dX12_init_304 (by decide) (by decide) g1430 rfl rfl rfl rfl rfl t166 ?_
  obtain ⟨h167, eh167, hf⟩ := nn_e hf
  refine e_hp eh167 ?_
  have uh167 : m_t h167 = m_t h165 := by rw [eh167]; exact rfl
  refine e_aload_n (pc := 307) C dX12_init_307 0 rfl rfl ?_
  refine e_iconst (v := (5 : Int32)) (pc := 308) C dX12_init_308 (by decide) ?_
  refine e_newi (pc := 309) C dX12_init_309 g220 (by decide) (N := 5) (by decide) (by decide) (Nat.le_of_ble_eq_true rfl) (Nat.le_of_ble_eq_true rfl) ?_
  obtain ⟨x168, ex168, hf⟩ := nn_e hf
  refine e_topr ex168 ?_
  obtain ⟨h169, eh169, hf⟩ := nn_e hf
  refine e_hp eh169 ?_
  obtain ⟨t170, hf⟩ := ck_e hf
  refine e_putrF (pc := 311) (x := some x168) 12 30 C hin dX12_init_311 (by decide) (by decide) g1431 rfl rfl rfl rfl rfl t170 ?_
  obtain ⟨h171, eh171, hf⟩ := nn_e hf
  refine e_hp eh171 ?_
  have uh171 : m_t h171 = m_t h169 := by rw [eh171]; exact rfl
  refine e_aload_n (pc := 314) C dX12_init_314 0 rfl rfl ?_
  refine e_iconst (v := (5 : Int32)) (pc := 315) C dX12_init_315 (by decide) ?_
  refine e_newi (pc := 316) C dX12_init_316 g220 (by decide) (N := 5) (by decide) (by decide) (Nat.le_of_ble_eq_true rfl) (Nat.le_of_ble_eq_true rfl) ?_
  obtain ⟨x172, ex172, hf⟩ := nn_e hf
  refine e_topr ex172 ?_
  obtain ⟨h173, eh173, hf⟩ := nn_e hf
  refine e_hp eh173 ?_
  obtain ⟨t174, hf⟩ := ck_e hf
  refine e_putrF (pc := 318) (x := some x172) 12 31 C hin dX12_init_318 (by decide) (by decide) g1432 rfl rfl rfl rfl rfl t174 ?_
  obtain ⟨h175, eh175, hf⟩ := nn_e hf
  refine e_hp eh175 ?_
  have uh175 : m_t h175 = m_t h173 := by rw [eh175]; exact rfl
  refine e_aload_n (pc := 321) C dX12_init_321 0 rfl rfl ?_
  refine e_bipush (v := (13 : Int32)) (pc := 322) C dX12_init_322 (by decide) ?_
  refine e_puti (pc := 324) 12 41 C dX12_init_324 (by decide) (by decide) g1442 rfl rfl rfl rfl (e_mt uh175 t174) ?_
  obtain ⟨h176, eh176, hf⟩ := nn_e hf
  refine e_hp eh176 ?_
  have uh176 : m_t h176 = m_t h173 := by rw [eh176]; exact uh175
  refine e_aload_n (pc := 327) C dX12_init_327 0 rfl rfl ?_
  refine e_sipush (v := (400 : Int32)) (pc := 328) C dX12_init_328 (by decide) ?_
  refine e_newb (pc := 331) C dX12_init_331 g219 (by decide) (N := 400) (by decide) (by decide) (Nat.le_of_ble_eq_true rfl) (Nat.le_of_ble_eq_true rfl) ?_
  obtain ⟨x177, ex177, hf⟩ := nn_e hf
  refine e_topr ex177 ?_
  obtain ⟨h178, eh178, hf⟩ := nn_e hf
  refine e_hp eh178 ?_
  obtain ⟨t179, hf⟩ := ck_e hf
  refine e_putrF (pc := 333) (x := some x177) 12 42 C hin dX12_init_333 (by decide) (by decide) g1443 rfl rfl rfl rfl rfl t179 ?_
  obtain ⟨h180, eh180, hf⟩ := nn_e hf
  refine e_hp eh180 ?_
  have uh180 : m_t h180 = m_t h178 := by rw [eh180]; exact rfl
  refine e_aload_n (pc := 336) C dX12_init_336 0 rfl rfl ?_
  refine e_sipush (v := (1800 : Int32)) (pc := 337) C dX12_init_337 (by decide) ?_
  refine e_newi (pc := 340) C dX12_init_340 g220 (by decide) (N := 1800) (by decide) (by decide) (Nat.le_of_ble_eq_true rfl) (Nat.le_of_ble_eq_true rfl) ?_
  obtain ⟨x181, ex181, hf⟩ := nn_e hf
  refine e_topr ex181 ?_
  obtain ⟨h182, eh182, hf⟩ := nn_e hf
  refine e_hp eh182 ?_
  obtain ⟨t183, hf⟩ := ck_e hf
  refine e_putrF (pc := 342) (x := some x181) 12 43 C hin dX12_init_342 (by decide) (by decide) g1444 rfl rfl rfl rfl rfl t183 ?_
  obtain ⟨h184, eh184, hf⟩ := nn_e hf
  refine e_hp eh184 ?_
  have uh184 : m_t h184 = m_t h182 := by rw [eh184]; exact rfl
  refine e_aload_n (pc := 345) C dX12_init_345 0 rfl rfl ?_
  refine e_sipush (v := (1800 : Int32)) (pc := 346) C dX12_init_346 (by decide) ?_
  refine e_newi (pc := 349) C dX12_init_349 g220 (by decide) (N := 1800) (by decide) (by decide) (Nat.le_of_ble_eq_true rfl) (Nat.le_of_ble_eq_true rfl) ?_
  obtain ⟨x185, ex185, hf⟩ := nn_e hf
  refine e_topr ex185 ?_
  obtain ⟨h186, eh186, hf⟩ := nn_e hf
  refine e_hp eh186 ?_
  obtain ⟨t187, hf⟩ := ck_e hf
  refine e_putrF (pc := 351) (x := some x185) 12 44 C hin dX12_init_351 (by decide) (by decide) g1445 rfl rfl rfl rfl rfl t187 ?_
  obtain ⟨h188, eh188, hf⟩ := nn_e hf
  refine e_hp eh188 ?_
  have uh188 : m_t h188 = m_t h186 := by rw [eh188]; exact rfl
  refine e_aload_n (pc := 354) C dX12_init_354 0 rfl rfl ?_
  refine e_bipush (v := (6 : Int32)) (pc := 355) C dX12_init_355 (by decide) ?_
  refine e_newi (pc := 357) C dX12_init_357 g220 (by decide) (N := 6) (by decide) (by decide) (Nat.le_of_ble_eq_true rfl) (Nat.le_of_ble_eq_true rfl) ?_
  obtain ⟨x189, ex189, hf⟩ := nn_e hf
  refine e_topr ex189 ?_
  obtain ⟨h190, eh190, hf⟩ := nn_e hf
  refine e_hp eh190 ?_
  obtain ⟨t191, hf⟩ := ck_e hf
  refine e_putrF (pc := 359) (x := some x189) 12 45 C hin dX12_init_359 (by decide) (by decide) g1446 rfl rfl rfl rfl rfl t191 ?_
  obtain ⟨h192, eh192, hf⟩ := nn_e hf
  refine e_hp eh192 ?_
  have uh192 : m_t h192 = m_t h190 := by rw [eh192]; exact rfl
  refine e_aload_n (pc := 362) C dX12_init_362 0 rfl rfl ?_
  refine e_bipush (v := (72 : Int32)) (pc := 363) C dX12_init_363 (by decide) ?_
  refine e_newi (pc := 365) C dX12_init_365 g220 (by decide) (N := 72) (by decide) (by decide) (Nat.le_of_ble_eq_true rfl) (Nat.le_of_ble_eq_true rfl) ?_
  obtain ⟨x193, ex193, hf⟩ := nn_e hf
  refine e_topr ex193 ?_
  obtain ⟨h194, eh194, hf⟩ := nn_e hf
  refine e_hp eh194 ?_
  obtain ⟨t195, hf⟩ := ck_e hf
  refine e_putrF (pc := 367) (x := some x193) 12 46 C hin dX12_init_367 (by decide) (by decide) g1447 rfl rfl rfl rfl rfl t195 ?_
  obtain ⟨h196, eh196, hf⟩ := nn_e hf
  refine e_hp eh196 ?_
  have uh196 : m_t h196 = m_t h194 := by rw [eh196]; exact rfl
  refine e_aload_n (pc := 370) C dX12_init_370 0 rfl rfl ?_
  refine e_bipush (v := (72 : Int32)) (pc := 371) C dX12_init_371 (by decide) ?_
  refine e_newi (pc := 373) C dX12_init_373 g220 (by decide) (N := 72) (by decide) (by decide) (Nat.le_of_ble_eq_true rfl) (Nat.le_of_ble_eq_true rfl) ?_
  obtain ⟨x197, ex197, hf⟩ := nn_e hf
  refine e_topr ex197 ?_
  obtain ⟨h198, eh198, hf⟩ := nn_e hf
  refine e_hp eh198 ?_
  obtain ⟨t199, hf⟩ := ck_e hf
  refine e_putrF (pc := 375) (x := some x197) 12 47 C hin dX12_init_375 (by decide) (by decide) g1448 rfl rfl rfl rfl rfl t199 ?_
  obtain ⟨h200, eh200, hf⟩ := nn_e hf
  refine e_hp eh200 ?_
  have uh200 : m_t h200 = m_t h198 := by rw [eh200]; exact rfl
  refine e_aload_n (pc := 378) C dX12_init_378 0 rfl rfl ?_
  refine e_bipush (v := (72 : Int32)) (pc := 379) C dX12_init_379 (by decide) ?_
  refine e_newi (pc := 381) C dX12_init_381 g220 (by decide) (N := 72) (by decide) (by decide) (Nat.le_of_ble_eq_true rfl) (Nat.le_of_ble_eq_true rfl) ?_
  obtain ⟨x201, ex201, hf⟩ := nn_e hf
  refine e_topr ex201 ?_
  obtain ⟨h202, eh202, hf⟩ := nn_e hf
  refine e_hp eh202 ?_
  obtain ⟨t203, hf⟩ := ck_e hf
  refine e_putrF (pc := 383) (x := some x201) 12 48 C hin dX12_init_383 (by decide) (by decide) g1449 rfl rfl rfl rfl rfl t203 ?_
  obtain ⟨h204, eh204, hf⟩ := nn_e hf
  refine e_hp eh204 ?_
  have uh204 : m_t h204 = m_t h202 := by rw [eh204]; exact rfl
  refine e_aload_n (pc := 386) C dX12_init_386 0 rfl rfl ?_
  refine e_sipush (v := (402 : Int32)) (pc := 387) C dX12_init_387 (by decide) ?_
  refine e_newi (pc := 390) C dX12_init_390 g220 (by decide) (N := 402) (by decide) (by decide) (Nat.le_of_ble_eq_true rfl) (Nat.le_of_ble_eq_true rfl) ?_
  obtain ⟨x205, ex205, hf⟩ := nn_e hf
  refine e_topr ex205 ?_
  obtain ⟨h206, eh206, hf⟩ := nn_e hf
  refine e_hp eh206 ?_
  obtain ⟨t207, hf⟩ := ck_e hf
  refine e_putrF (pc := 392) (x := some x205) 12 49 C hin dX12_init_392 (by decide) (by decide) g1450 rfl rfl rfl rfl rfl t207 ?_
  obtain ⟨h208, eh208, hf⟩ := nn_e hf
  refine e_hp eh208 ?_
  have uh208 : m_t h208 = m_t h206 := by rw [eh208]; exact rfl
  refine e_aload_n (pc := 395) C dX12_init_395 0 rfl rfl ?_
  refine e_bipush (v := (13 : Int32)) (pc := 396) C dX12_init_396 (by decide) ?_
  refine e_newl (pc := 398) C dX12_init_398 g894 (by decide) (N := 13) (by decide) (by decide) (Nat.le_of_ble_eq_true rfl) (Nat.le_of_ble_eq_true rfl) ?_
  obtain ⟨x209, ex209, hf⟩ := nn_e hf
  refine e_topr ex209 ?_
  obtain ⟨h210, eh210, hf⟩ := nn_e hf
  refine e_hp eh210 ?_
  obtain ⟨t211, hf⟩ := ck_e hf
  refine e_putrF (pc := 400) (x := some x209) 12 50 C hin dX12_init_400 (by decide) (by decide) g1451 rfl rfl rfl rfl rfl t211 ?_
  obtain ⟨h212, eh212, hf⟩ := nn_e hf
  refine e_hp eh212 ?_
  have uh212 : m_t h212 = m_t h210 := by rw [eh212]; exact rfl
  refine e_aload_n (pc := 403) C dX12_init_403 0 rfl rfl ?_
  refine e_sipush (v := (300 : Int32)) (pc := 404) C dX12_init_404 (by decide) ?_
  refine e_newl (pc := 407) C dX12_init_407 g894 (by decide) (N := 300) (by decide) (by decide) (Nat.le_of_ble_eq_true rfl) (Nat.le_of_ble_eq_true rfl) ?_
  obtain ⟨x213, ex213, hf⟩ := nn_e hf
  refine e_topr ex213 ?_
  obtain ⟨h214, eh214, hf⟩ := nn_e hf
  refine e_hp eh214 ?_
  obtain ⟨t215, hf⟩ := ck_e hf
  refine e_putrF (pc := 409) (x := some x213) 12 51 C hin dX12_init_409 (by decide) (by decide) g1452 rfl rfl rfl rfl rfl t215 ?_
  obtain ⟨h216, eh216, hf⟩ := nn_e hf
  refine e_hp eh216 ?_
  have uh216 : m_t h216 = m_t h214 := by rw [eh216]; exact rfl
  refine e_aload_n (pc := 412) C dX12_init_412 0 rfl rfl ?_
  refine e_bipush (v := (6 : Int32)) (pc := 413) C dX12_init_413 (by decide) ?_
  refine e_newi (pc := 415) C dX12_init_415 g220 (by decide) (N := 6) (by decide) (by decide) (Nat.le_of_ble_eq_true rfl) (Nat.le_of_ble_eq_true rfl) ?_
  obtain ⟨x217, ex217, hf⟩ := nn_e hf
  refine e_topr ex217 ?_
  obtain ⟨h218, eh218, hf⟩ := nn_e hf
  refine e_hp eh218 ?_
  obtain ⟨t219, hf⟩ := ck_e hf
  refine e_putrF (pc := 417) (x := some x217) 12 52 C hin dX12_init_417 (by decide) (by decide) g1453 rfl rfl rfl rfl rfl t219 ?_
  obtain ⟨h220, eh220, hf⟩ := nn_e hf
  refine e_hp eh220 ?_
  have uh220 : m_t h220 = m_t h218 := by rw [eh220]; exact rfl
  refine e_aload_n (pc := 420) C dX12_init_420 0 rfl rfl ?_
  refine e_sipush (v := (1020 : Int32)) (pc := 421) C dX12_init_421 (by decide) ?_
  refine e_newi (pc := 424) C dX12_init_424 g220 (by decide) (N := 1020) (by decide) (by decide) (Nat.le_of_ble_eq_true rfl) (Nat.le_of_ble_eq_true rfl) ?_
  obtain ⟨x221, ex221, hf⟩ := nn_e hf
  refine e_topr ex221 ?_
  obtain ⟨h222, eh222, hf⟩ := nn_e hf
  refine e_hp eh222 ?_
  obtain ⟨t223, hf⟩ := ck_e hf
  refine e_putrF (pc := 426) (x := some x221) 12 53 C hin dX12_init_426 (by decide) (by decide) g1454 rfl rfl rfl rfl rfl t223 ?_
  obtain ⟨h224, eh224, hf⟩ := nn_e hf
  refine e_hp eh224 ?_
  have uh224 : m_t h224 = m_t h222 := by rw [eh224]; exact rfl
  refine e_aload_n (pc := 429) C dX12_init_429 0 rfl rfl ?_
  refine e_iconst (v := (1 : Int32)) (pc := 430) C dX12_init_430 (by decide) ?_
  refine e_newi (pc := 431) C dX12_init_431 g220 (by decide) (N := 1) (by decide) (by decide) (Nat.le_of_ble_eq_true rfl) (Nat.le_of_ble_eq_true rfl) ?_
  obtain ⟨x225, ex225, hf⟩ := nn_e hf
  refine e_topr ex225 ?_
  obtain ⟨h226, eh226, hf⟩ := nn_e hf
  refine e_hp eh226 ?_
  obtain ⟨t227, hf⟩ := ck_e hf
  refine e_putrF (pc := 433) (x := some x225) 12 54 C hin dX12_init_433 (by decide) (by decide) g1455 rfl rfl rfl rfl rfl t227 ?_
  obtain ⟨h228, eh228, hf⟩ := nn_e hf
  refine e_hp eh228 ?_
  have uh228 : m_t h228 = m_t h226 := by rw [eh228]; exact rfl
  refine e_aload_n (pc := 436) C dX12_init_436 0 rfl rfl ?_
  refine e_bipush (v := (8 : Int32)) (pc := 437) C dX12_init_437 (by decide) ?_
  refine e_newi (pc := 439) C dX12_init_439 g220 (by decide) (N := 8) (by decide) (by decide) (Nat.le_of_ble_eq_true rfl) (Nat.le_of_ble_eq_true rfl) ?_
  obtain ⟨x229, ex229, hf⟩ := nn_e hf
  refine e_topr ex229 ?_
  obtain ⟨h230, eh230, hf⟩ := nn_e hf
  refine e_hp eh230 ?_
  obtain ⟨t231, hf⟩ := ck_e hf
  refine e_putrF (pc := 441) (x := some x229) 12 58 C hin dX12_init_441 (by decide) (by decide) g1459 rfl rfl rfl rfl rfl t231 ?_
  obtain ⟨h232, eh232, hf⟩ := nn_e hf
  refine e_hp eh232 ?_
  have uh232 : m_t h232 = m_t h230 := by rw [eh232]; exact rfl
  refine e_aload_n (pc := 444) C dX12_init_444 0 rfl rfl ?_
  refine e_bipush (v := (8 : Int32)) (pc := 445) C dX12_init_445 (by decide) ?_
  refine e_newi (pc := 447) C dX12_init_447 g220 (by decide) (N := 8) (by decide) (by decide) (Nat.le_of_ble_eq_true rfl) (Nat.le_of_ble_eq_true rfl) ?_
  obtain ⟨x233, ex233, hf⟩ := nn_e hf
  refine e_topr ex233 ?_
  obtain ⟨h234, eh234, hf⟩ := nn_e hf
  refine e_hp eh234 ?_
  obtain ⟨t235, hf⟩ := ck_e hf
  refine e_putrF (pc := 449) (x := some x233) 12 59 C hin dX12_init_449 (by decide) (by decide) g1460 rfl rfl rfl rfl rfl t235 ?_
  obtain ⟨h236, eh236, hf⟩ := nn_e hf
  refine e_hp eh236 ?_
  have uh236 : m_t h236 = m_t h234 := by rw [eh236]; exact rfl
  refine e_aload_n (pc := 452) C dX12_init_452 0 rfl rfl ?_
  refine e_sipush (v := (256 : Int32)) (pc := 453) C dX12_init_453 (by decide) ?_
  refine e_newi (pc := 456) C dX12_init_456 g220 (by decide) (N := 256) (by decide) (by decide) (Nat.le_of_ble_eq_true rfl) (Nat.le_of_ble_eq_true rfl) ?_
  obtain ⟨x237, ex237, hf⟩ := nn_e hf
  refine e_topr ex237 ?_
  obtain ⟨h238, eh238, hf⟩ := nn_e hf
  refine e_hp eh238 ?_
  obtain ⟨t239, hf⟩ := ck_e hf
  refine e_putrF (pc := 458) (x := some x237) 12 60 C hin dX12_init_458 (by decide) (by decide) g1461 rfl rfl rfl rfl rfl t239 ?_
  obtain ⟨h240, eh240, hf⟩ := nn_e hf
  refine e_hp eh240 ?_
  have uh240 : m_t h240 = m_t h238 := by rw [eh240]; exact rfl
  refine e_aload_n (pc := 461) C dX12_init_461 0 rfl rfl ?_
  refine e_bipush (v := (8 : Int32)) (pc := 462) C dX12_init_462 (by decide) ?_
  refine e_newi (pc := 464) C dX12_init_464 g220 (by decide) (N := 8) (by decide) (by decide) (Nat.le_of_ble_eq_true rfl) (Nat.le_of_ble_eq_true rfl) ?_
  obtain ⟨x241, ex241, hf⟩ := nn_e hf
  refine e_topr ex241 ?_
  obtain ⟨h242, eh242, hf⟩ := nn_e hf
  refine e_hp eh242 ?_
  obtain ⟨t243, hf⟩ := ck_e hf
  refine e_putrF (pc := 466) (x := some x241) 12 61 C hin dX12_init_466 (by decide) (by decide) g1462 rfl rfl rfl rfl rfl t243 ?_
  obtain ⟨h244, eh244, hf⟩ := nn_e hf
  refine e_hp eh244 ?_
  have uh244 : m_t h244 = m_t h242 := by rw [eh244]; exact rfl
  refine e_aload_n (pc := 469) C dX12_init_469 0 rfl rfl ?_
  refine e_sipush (v := (9150 : Int32)) (pc := 470) C dX12_init_470 (by decide) ?_
  refine e_newi (pc := 473) C dX12_init_473 g220 (by decide) (N := 9150) (by decide) (by decide) (Nat.le_of_ble_eq_true rfl) (Nat.le_of_ble_eq_true rfl) ?_
  obtain ⟨x245, ex245, hf⟩ := nn_e hf
  refine e_topr ex245 ?_
  obtain ⟨h246, eh246, hf⟩ := nn_e hf
  refine e_hp eh246 ?_
  obtain ⟨t247, hf⟩ := ck_e hf
  refine e_putrF (pc := 475) (x := some x245) 12 65 C hin dX12_init_475 (by decide) (by decide) g1466 rfl rfl rfl rfl rfl t247 ?_
  obtain ⟨h248, eh248, hf⟩ := nn_e hf
  refine e_hp eh248 ?_
  have uh248 : m_t h248 = m_t h246 := by rw [eh248]; exact rfl
  refine e_aload_n (pc := 478) C dX12_init_478 0 rfl rfl ?_
  refine e_sipush (v := (1464 : Int32)) (pc := 479) C dX12_init_479 (by decide) ?_
  refine e_newi (pc := 482) C dX12_init_482 g220 (by decide) (N := 1464) (by decide) (by decide) (Nat.le_of_ble_eq_true rfl) (Nat.le_of_ble_eq_true rfl) ?_
  obtain ⟨x249, ex249, hf⟩ := nn_e hf
  refine e_topr ex249 ?_
  obtain ⟨h250, eh250, hf⟩ := nn_e hf
  refine e_hp eh250 ?_
  obtain ⟨t251, hf⟩ := ck_e hf
  refine e_putrF (pc := 484) (x := some x249) 12 66 C hin dX12_init_484 (by decide) (by decide) g1467 rfl rfl rfl rfl rfl t251 ?_
  obtain ⟨h252, eh252, hf⟩ := nn_e hf
  refine e_hp eh252 ?_
  have uh252 : m_t h252 = m_t h250 := by rw [eh252]; exact rfl
  refine e_aload_n (pc := 487) C dX12_init_487 0 rfl rfl ?_
  refine e_sipush (v := (144 : Int32)) (pc := 488) C dX12_init_488 (by decide) ?_
  refine e_newi (pc := 491) C dX12_init_491 g220 (by decide) (N := 144) (by decide) (by decide) (Nat.le_of_ble_eq_true rfl) (Nat.le_of_ble_eq_true rfl) ?_
  obtain ⟨x253, ex253, hf⟩ := nn_e hf
  refine e_topr ex253 ?_
  obtain ⟨h254, eh254, hf⟩ := nn_e hf
  refine e_hp eh254 ?_
  obtain ⟨t255, hf⟩ := ck_e hf
  refine e_putrF (pc := 493) (x := some x253) 12 67 C hin dX12_init_493 (by decide) (by decide) g1468 rfl rfl rfl rfl rfl t255 ?_
  obtain ⟨h256, eh256, hf⟩ := nn_e hf
  refine e_hp eh256 ?_
  have uh256 : m_t h256 = m_t h254 := by rw [eh256]; exact rfl
  refine e_aload_n (pc := 496) C dX12_init_496 0 rfl rfl ?_
  refine e_bipush (v := (24 : Int32)) (pc := 497) C dX12_init_497 (by decide) ?_
  refine e_newi (pc := 499) C dX12_init_499 g220 (by decide) (N := 24) (by decide) (by decide) (Nat.le_of_ble_eq_true rfl) (Nat.le_of_ble_eq_true rfl) ?_
  obtain ⟨x257, ex257, hf⟩ := nn_e hf
  refine e_topr ex257 ?_
  obtain ⟨h258, eh258, hf⟩ := nn_e hf
  refine e_hp eh258 ?_
  obtain ⟨t259, hf⟩ := ck_e hf
  refine e_putrF (pc := 501) (x := some x257) 12 68 C hin dX12_init_501 (by decide) (by decide) g1469 rfl rfl rfl rfl rfl t259 ?_
  obtain ⟨h260, eh260, hf⟩ := nn_e hf
  refine e_hp eh260 ?_
  have uh260 : m_t h260 = m_t h258 := by rw [eh260]; exact rfl
  refine e_aload_n (pc := 504) C dX12_init_504 0 rfl rfl ?_
  refine e_bipush (v := (24 : Int32)) (pc := 505) C dX12_init_505 (by decide) ?_
  refine e_newi (pc := 507) C dX12_init_507 g220 (by decide) (N := 24) (by decide) (by decide) (Nat.le_of_ble_eq_true rfl) (Nat.le_of_ble_eq_true rfl) ?_
  obtain ⟨x261, ex261, hf⟩ := nn_e hf
  refine e_topr ex261 ?_
  obtain ⟨h262, eh262, hf⟩ := nn_e hf
  refine e_hp eh262 ?_
  obtain ⟨t263, hf⟩ := ck_e hf
  refine e_putrF (pc := 509) (x := some x261) 12 69 C hin dX12_init_509 (by decide) (by decide) g1470 rfl rfl rfl rfl rfl t263 ?_
  obtain ⟨h264, eh264, hf⟩ := nn_e hf
  refine e_hp eh264 ?_
  have uh264 : m_t h264 = m_t h262 := by rw [eh264]; exact rfl
  refine e_aload_n (pc := 512) C dX12_init_512 0 rfl rfl ?_
  refine e_bipush (v := (24 : Int32)) (pc := 513) C dX12_init_513 (by decide) ?_
  refine e_newi (pc := 515) C dX12_init_515 g220 (by decide) (N := 24) (by decide) (by decide) (Nat.le_of_ble_eq_true rfl) (Nat.le_of_ble_eq_true rfl) ?_
  obtain ⟨x265, ex265, hf⟩ := nn_e hf
  refine e_topr ex265 ?_
  obtain ⟨h266, eh266, hf⟩ := nn_e hf
  refine e_hp eh266 ?_
  obtain ⟨t267, hf⟩ := ck_e hf
  refine e_putrF (pc := 517) (x := some x265) 12 70 C hin dX12_init_517 (by decide) (by decide) g1471 rfl rfl rfl rfl rfl t267 ?_
  obtain ⟨h268, eh268, hf⟩ := nn_e hf
  refine e_hp eh268 ?_
  have uh268 : m_t h268 = m_t h266 := by rw [eh268]; exact rfl
  refine e_aload_n (pc := 520) C dX12_init_520 0 rfl rfl ?_
  refine e_bipush (v := (8 : Int32)) (pc := 521) C dX12_init_521 (by decide) ?_
  refine e_newi (pc := 523) C dX12_init_523 g220 (by decide) (N := 8) (by decide) (by decide) (Nat.le_of_ble_eq_true rfl) (Nat.le_of_ble_eq_true rfl) ?_
  obtain ⟨x269, ex269, hf⟩ := nn_e hf
  refine e_topr ex269 ?_
  obtain ⟨h270, eh270, hf⟩ := nn_e hf
  refine e_hp eh270 ?_
  obtain ⟨t271, hf⟩ := ck_e hf
  refine e_putrF (pc := 525) (x := some x269) 12 71 C hin dX12_init_525 (by decide) (by decide) g1472 rfl rfl rfl rfl rfl t271 ?_
  obtain ⟨h272, eh272, hf⟩ := nn_e hf
  refine e_hp eh272 ?_
  have uh272 : m_t h272 = m_t h270 := by rw [eh272]; exact rfl
  refine e_aload_n (pc := 528) C dX12_init_528 0 rfl rfl ?_
  refine e_bipush (v := (81 : Int32)) (pc := 529) C dX12_init_529 (by decide) ?_
  refine e_newi (pc := 531) C dX12_init_531 g220 (by decide) (N := 81) (by decide) (by decide) (Nat.le_of_ble_eq_true rfl) (Nat.le_of_ble_eq_true rfl) ?_
  obtain ⟨x273, ex273, hf⟩ := nn_e hf
  refine e_topr ex273 ?_
  obtain ⟨h274, eh274, hf⟩ := nn_e hf
  refine e_hp eh274 ?_
  obtain ⟨t275, hf⟩ := ck_e hf
  refine e_putrF (pc := 533) (x := some x273) 12 72 C hin dX12_init_533 (by decide) (by decide) g1473 rfl rfl rfl rfl rfl t275 ?_
  obtain ⟨h276, eh276, hf⟩ := nn_e hf
  refine e_hp eh276 ?_
  have uh276 : m_t h276 = m_t h274 := by rw [eh276]; exact rfl
  refine e_aload_n (pc := 536) C dX12_init_536 0 rfl rfl ?_
  refine e_bipush (v := (7 : Int32)) (pc := 537) C dX12_init_537 (by decide) ?_
  refine e_newi (pc := 539) C dX12_init_539 g220 (by decide) (N := 7) (by decide) (by decide) (Nat.le_of_ble_eq_true rfl) (Nat.le_of_ble_eq_true rfl) ?_
  obtain ⟨x277, ex277, hf⟩ := nn_e hf
  refine e_topr ex277 ?_
  obtain ⟨h278, eh278, hf⟩ := nn_e hf
  refine e_hp eh278 ?_
  obtain ⟨t279, hf⟩ := ck_e hf
  refine e_putrF (pc := 541) (x := some x277) 12 73 C hin dX12_init_541 (by decide) (by decide) g1474 rfl rfl rfl rfl rfl t279 ?_
  obtain ⟨h280, eh280, hf⟩ := nn_e hf
  refine e_hp eh280 ?_
  have uh280 : m_t h280 = m_t h278 := by rw [eh280]; exact rfl
  refine e_aload_n (pc := 544) C dX12_init_544 0 rfl rfl ?_
  refine e_bipush (v := (7 : Int32)) (pc := 545) C dX12_init_545 (by decide) ?_
  refine e_newi (pc := 547) C dX12_init_547 g220 (by decide) (N := 7) (by decide) (by decide) (Nat.le_of_ble_eq_true rfl) (Nat.le_of_ble_eq_true rfl) ?_
  obtain ⟨x281, ex281, hf⟩ := nn_e hf
  refine e_topr ex281 ?_
  obtain ⟨h282, eh282, hf⟩ := nn_e hf
  refine e_hp eh282 ?_
  obtain ⟨t283, hf⟩ := ck_e hf
  refine e_putrF (pc := 549) (x := some x281) 12 74 C hin dX12_init_549 (by decide) (by decide) g1475 rfl rfl rfl rfl rfl t283 ?_
  obtain ⟨h284, eh284, hf⟩ := nn_e hf
  refine e_hp eh284 ?_
  have uh284 : m_t h284 = m_t h282 := by rw [eh284]; exact rfl
  refine e_aload_n (pc := 552) C dX12_init_552 0 rfl rfl ?_
  refine e_sipush (v := (1464 : Int32)) (pc := 553) C dX12_init_553 (by decide) ?_
  refine e_newi (pc := 556) C dX12_init_556 g220 (by decide) (N := 1464) (by decide) (by decide) (Nat.le_of_ble_eq_true rfl) (Nat.le_of_ble_eq_true rfl) ?_
  obtain ⟨x285, ex285, hf⟩ := nn_e hf
  refine e_topr ex285 ?_
  obtain ⟨h286, eh286, hf⟩ := nn_e hf
  refine e_hp eh286 ?_
  obtain ⟨t287, hf⟩ := ck_e hf
  refine e_putrF (pc := 558) (x := some x285) 12 79 C hin dX12_init_558 (by decide) (by decide) g1480 rfl rfl rfl rfl rfl t287 ?_
  obtain ⟨h288, eh288, hf⟩ := nn_e hf
  refine e_hp eh288 ?_
  have uh288 : m_t h288 = m_t h286 := by rw [eh288]; exact rfl
  refine e_aload_n (pc := 561) C dX12_init_561 0 rfl rfl ?_
  refine e_bipush (v := (24 : Int32)) (pc := 562) C dX12_init_562 (by decide) ?_
  refine e_newz (pc := 564) C dX12_init_564 g1657 (by decide) (N := 24) (by decide) (by decide) (Nat.le_of_ble_eq_true rfl) (Nat.le_of_ble_eq_true rfl) ?_
  obtain ⟨x289, ex289, hf⟩ := nn_e hf
  refine e_topr ex289 ?_
  obtain ⟨h290, eh290, hf⟩ := nn_e hf
  refine e_hp eh290 ?_
  obtain ⟨t291, hf⟩ := ck_e hf
  refine e_putrF (pc := 566) (x := some x289) 12 80 C hin dX12_init_566 (by decide) (by decide) g1481 rfl rfl rfl rfl rfl t291 ?_
  obtain ⟨h292, eh292, hf⟩ := nn_e hf
  refine e_hp eh292 ?_
  have uh292 : m_t h292 = m_t h290 := by rw [eh292]; exact rfl
  refine e_aload_n (pc := 569) C dX12_init_569 0 rfl rfl ?_
  refine e_sipush (v := (6250 : Int32)) (pc := 570) C dX12_init_570 (by decide) ?_
  refine e_newi (pc := 573) C dX12_init_573 g220 (by decide) (N := 6250) (by decide) (by decide) (Nat.le_of_ble_eq_true rfl) (Nat.le_of_ble_eq_true rfl) ?_
  obtain ⟨x293, ex293, hf⟩ := nn_e hf
  refine e_topr ex293 ?_
  obtain ⟨h294, eh294, hf⟩ := nn_e hf
  refine e_hp eh294 ?_
  obtain ⟨t295, hf⟩ := ck_e hf
  refine e_putrF (pc := 575) (x := some x293) 12 81 C hin dX12_init_575 (by decide) (by decide) g1482 rfl rfl rfl rfl rfl t295 ?_
  obtain ⟨h296, eh296, hf⟩ := nn_e hf
  refine e_hp eh296 ?_
  have uh296 : m_t h296 = m_t h294 := by rw [eh296]; exact rfl
  refine e_aload_n (pc := 578) C dX12_init_578 0 rfl rfl ?_
  refine e_iconst (v := (4 : Int32)) (pc := 579) C dX12_init_579 (by decide) ?_
  refine e_newz (pc := 580) C dX12_init_580 g1657 (by decide) (N := 4) (by decide) (by decide) (Nat.le_of_ble_eq_true rfl) (Nat.le_of_ble_eq_true rfl) ?_
  obtain ⟨x297, ex297, hf⟩ := nn_e hf
  refine e_topr ex297 ?_
  obtain ⟨h298, eh298, hf⟩ := nn_e hf
  refine e_hp eh298 ?_
  obtain ⟨t299, hf⟩ := ck_e hf
  refine e_putrF (pc := 582) (x := some x297) 12 82 C hin dX12_init_582 (by decide) (by decide) g1483 rfl rfl rfl rfl rfl t299 ?_
  obtain ⟨h300, eh300, hf⟩ := nn_e hf
  refine e_hp eh300 ?_
  have uh300 : m_t h300 = m_t h298 := by rw [eh300]; exact rfl
  obtain rfl := so_e hf
  exact e_vret (pc := 585) C hr dX12_init_585 (Nat.le_of_ble_eq_true rfl) (Nat.le_of_ble_eq_true rfl)
