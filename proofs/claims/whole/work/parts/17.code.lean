/-! Functions and walks, by a program of ours: X11_image X11_back X12_init X12_in X12_bits X12_has X12_held X12_isTrain X12_isPerson X12_rides X12_milesLeft X12_put X12_feed X12_end X12_wordOf X12_fails X12_sign X12_blanks X12_isDigit X12_stood X12_takes X12_entry X12_isCounted X12_digits X12_value X12_term -/
theorem dX11_image_0 : decode cX11_image 0 = .ok (.iload_n 1, 1) := by decide +kernel
theorem dX11_image_1 : decode cX11_image 1 = .ok (.ifCond .lt 8, 3) := by decide +kernel
theorem dX11_image_4 : decode cX11_image 4 = .ok (.iload_n 1, 1) := by decide +kernel
theorem dX11_image_5 : decode cX11_image 5 = .ok (.iconst 4, 1) := by decide +kernel
theorem dX11_image_6 : decode cX11_image 6 = .ok (.if_icmp .lt 5, 3) := by decide +kernel
theorem dX11_image_9 : decode cX11_image 9 = .ok (.iconst (-1), 1) := by decide +kernel
theorem dX11_image_10 : decode cX11_image 10 = .ok (.ireturn, 1) := by decide +kernel
theorem dX11_image_11 : decode cX11_image 11 = .ok (.aload_n 0, 1) := by decide +kernel
theorem dX11_image_12 : decode cX11_image 12 = .ok (.getfield 59, 3) := by decide +kernel
theorem dX11_image_15 : decode cX11_image 15 = .ok (.iload_n 1, 1) := by decide +kernel
theorem dX11_image_16 : decode cX11_image 16 = .ok (.aaload, 1) := by decide +kernel
theorem dX11_image_17 : decode cX11_image 17 = .ok (.ifnonnull 23, 3) := by decide +kernel
theorem dX11_image_20 : decode cX11_image 20 = .ok (.aload_n 0, 1) := by decide +kernel
theorem dX11_image_21 : decode cX11_image 21 = .ok (.getfield 59, 3) := by decide +kernel
theorem dX11_image_24 : decode cX11_image 24 = .ok (.iload_n 1, 1) := by decide +kernel
theorem dX11_image_25 : decode cX11_image 25 = .ok (.new 42, 3) := by decide +kernel
theorem dX11_image_28 : decode cX11_image 28 = .ok (.dup, 1) := by decide +kernel
theorem dX11_image_29 : decode cX11_image 29 = .ok (.aload_n 0, 1) := by decide +kernel
theorem dX11_image_30 : decode cX11_image 30 = .ok (.getfield 55, 3) := by decide +kernel
theorem dX11_image_33 : decode cX11_image 33 = .ok (.getfield 63, 3) := by decide +kernel
theorem dX11_image_36 : decode cX11_image 36 = .ok (.invokespecial 52, 3) := by decide +kernel
theorem dX11_image_39 : decode cX11_image 39 = .ok (.aastore, 1) := by decide +kernel
theorem dX11_image_40 : decode cX11_image 40 = .ok (.aload_n 0, 1) := by decide +kernel
theorem dX11_image_41 : decode cX11_image 41 = .ok (.getfield 59, 3) := by decide +kernel
theorem dX11_image_44 : decode cX11_image 44 = .ok (.iload_n 1, 1) := by decide +kernel
theorem dX11_image_45 : decode cX11_image 45 = .ok (.aaload, 1) := by decide +kernel
theorem dX11_image_46 : decode cX11_image 46 = .ok (.aload_n 0, 1) := by decide +kernel
theorem dX11_image_47 : decode cX11_image 47 = .ok (.getfield 55, 3) := by decide +kernel
theorem dX11_image_50 : decode cX11_image 50 = .ok (.invokevirtual 361, 3) := by decide +kernel
theorem dX11_image_53 : decode cX11_image 53 = .ok (.aload_n 0, 1) := by decide +kernel
theorem dX11_image_54 : decode cX11_image 54 = .ok (.getfield 55, 3) := by decide +kernel
theorem dX11_image_57 : decode cX11_image 57 = .ok (.getfield 63, 3) := by decide +kernel
theorem dX11_image_60 : decode cX11_image 60 = .ok (.getfield 358, 3) := by decide +kernel
theorem dX11_image_63 : decode cX11_image 63 = .ok (.ireturn, 1) := by decide +kernel
def f_X11_image (G : GG) (v0 : Nat) (v1 : Int32) (h : AH) : Option (Int32 × AH) :=
if v1 < 0 then (some ((-1 : Int32), h)) else
if v1 < (4 : Int32) then (ck (m_t h v0 = .inl 11) <|
ob (m_r h v0 6) fun b4 =>
ck (ixb h b4 (.object RX6) v1 = true) <|
nn (fun (h_40 : AH) => (ck (m_t h_40 v0 = .inl 11) <|
ob (m_r h_40 v0 6) fun b8 =>
ck (ixb h_40 b8 (.object RX6) v1 = true) <|
ob (m_r h_40 b8 v1.toNatClampNeg) fun b11 =>
ob (m_r h_40 v0 5) fun b12 =>
ck (m_t h_40 b11 = .inl 6) <|
ob (f_X6_copyFrom G b11 b12 h_40) fun h14 =>
ck (m_t h14 v0 = .inl 11) <|
ob (m_r h14 v0 5) fun b17 =>
ck (m_t h14 b17 = .inl 6) <|
ob (m_r h14 b17 0) fun b19 =>
ck (m_t h14 b19 = .inl 0) <|
some (m_i h14 b19 4, h14))) fun j_40 =>
on (m_r h b4 v1.toNatClampNeg) (ob (m_r h v0 6) fun b23 =>
nn (m_n h) fun x24 =>
nn (m_new h (.inl 6)) fun h25 =>
ck (m_t h25 v0 = .inl 11) <|
ob (m_r h25 v0 5) fun b27 =>
ck (m_t h25 b27 = .inl 6) <|
ob (m_r h25 b27 0) fun b29 =>
ob (f_X6_init G x24 b29 h25) fun h30 =>
ck (m_t h30 x24 = .inl 6) <|
ck (ixb h30 b23 (.object RX6) v1 = true) <|
nn (m_sr h30 b23 v1.toNatClampNeg (some x24)) fun h35 =>
j_40 h35) fun b21 =>
j_40 h) else
some ((-1 : Int32), h)
set_option maxHeartbeats 4000000 in
set_option maxRecDepth 100000 in
theorem ct_X11_image {G : GG} {l : Launch} {v0 : Nat} {v1 : Int32} {h : AH} {y : Int32 × AH} (hf : f_X11_image G v0 v1 h = some y) : Ct G l yX11_image cX11_image 2 (some .int) 2 85 3 27 [.ref v0, .int v1] h (some (.int y.1), y.2) := by
  refine ct_of (by decide) (Nat.le_of_ble_eq_true rfl) ?_
  intro p e s m args below meth c C hm hr hin
  have C : Cx G cX11_image RX11 p s m args meth c := C
  refine e_lv (lv2 := [(0, .ref v0), (1, .int v1)]) [0, 1] rfl ?_
  unfold f_X11_image at hf
  refine e_iload_n (pc := 0) C dX11_image_0 1 rfl rfl ?_
  rcases it_e hf with ⟨c1, hf⟩ | ⟨c1, hf⟩
  · refine e_if_lt (pc := 1) (tgt := 9) C dX11_image_1 (by decide) (fun _ => ?_) (fun q => absurd c1 q)
    refine e_iconst (v := (-1 : Int32)) (pc := 9) C dX11_image_9 (by decide) ?_
    obtain rfl := so_e hf
    exact e_iret (pc := 10) C hr dX11_image_10 (Nat.le_of_ble_eq_true rfl) (Nat.le_of_ble_eq_true rfl)
  · refine e_if_lt (pc := 1) (tgt := 9) C dX11_image_1 (by decide) (fun q => absurd q c1) (fun _ => ?_)
    refine e_iload_n (pc := 4) C dX11_image_4 1 rfl rfl ?_
    refine e_iconst (v := (4 : Int32)) (pc := 5) C dX11_image_5 (by decide) ?_
    rcases it_e hf with ⟨c2, hf⟩ | ⟨c2, hf⟩
    · refine e_icmp_lt (pc := 6) (tgt := 11) C dX11_image_6 (by decide) (fun _ => ?_) (fun q => absurd c2 q)
      refine e_aload_n (pc := 11) C dX11_image_11 0 rfl rfl ?_
      obtain ⟨t3, hf⟩ := ck_e hf
      refine e_getr (pc := 12) 11 6 C dX11_image_12 (by decide) (by decide) g579 rfl t3 ?_
      obtain ⟨b4, eb4, hf⟩ := ob_e hf
      refine e_rf eb4 ?_
      refine e_iload_n (pc := 15) C dX11_image_15 1 rfl rfl ?_
      obtain ⟨q5, hf⟩ := ck_e hf
      obtain ⟨n6, tn6, in6⟩ := ix_e q5
      refine e_aald (pc := 16) 6 rfl C dX11_image_16 tn6 in6 ?_
      obtain ⟨j_40, ej_40, hf⟩ := nn_e hf
      have W_40 : ∀ (h_40 : AH), j_40 h_40 = some y → EE G p l e ({ frames := 2, cells := 3, slots := 27, locals := 85 } : Room) s m args below meth c (some (.int y.1), y.2) 3 27 40 [(0, .ref v0), (1, .int v1)] [] h_40 3 27 := by
        intro h_40 hf
        rw [ej_40] at hf
        refine e_aload_n (pc := 40) C dX11_image_40 0 rfl rfl ?_
        obtain ⟨t7, hf⟩ := ck_e hf
        refine e_getr (pc := 41) 11 6 C dX11_image_41 (by decide) (by decide) g579 rfl t7 ?_
        obtain ⟨b8, eb8, hf⟩ := ob_e hf
        refine e_rf eb8 ?_
        refine e_iload_n (pc := 44) C dX11_image_44 1 rfl rfl ?_
        obtain ⟨q9, hf⟩ := ck_e hf
        obtain ⟨n10, tn10, in10⟩ := ix_e q9
        refine e_aald (pc := 45) 6 rfl C dX11_image_45 tn10 in10 ?_
        obtain ⟨b11, eb11, hf⟩ := ob_e hf
        refine e_rf eb11 ?_
        refine e_aload_n (pc := 46) C dX11_image_46 0 rfl rfl ?_
        refine e_getr (pc := 47) 11 5 C dX11_image_47 (by decide) (by decide) g578 rfl t7 ?_
        obtain ⟨b12, eb12, hf⟩ := ob_e hf
        refine e_rf eb12 ?_
        obtain ⟨t13, hf⟩ := ck_e hf
        obtain ⟨h14, y15, hf⟩ := ob_e hf
        refine e_callVv (pc := 50) (st := []) 6 C (ct_X6_copyFrom y15) dX11_image_50 (by decide) t13 g1387 g1388 g1389 g150 g1390 hd_X6_copyFrom rfl ⟨Nat.le_of_ble_eq_true rfl, Nat.le_of_ble_eq_true rfl⟩ ⟨Nat.le_of_ble_eq_true rfl, Nat.le_of_ble_eq_true rfl⟩ rfl (Nat.le_of_ble_eq_true rfl) ?_
        refine e_aload_n (pc := 53) C dX11_image_53 0 rfl rfl ?_
        obtain ⟨t16, hf⟩ := ck_e hf
        refine e_getr (pc := 54) 11 5 C dX11_image_54 (by decide) (by decide) g578 rfl t16 ?_
        obtain ⟨b17, eb17, hf⟩ := ob_e hf
        refine e_rf eb17 ?_
        obtain ⟨t18, hf⟩ := ck_e hf
        refine e_getrN (pc := 57) 6 0 C dX11_image_57 (by decide) (by decide) g458 rfl t18 ?_
        obtain ⟨b19, eb19, hf⟩ := ob_e hf
        refine e_rf eb19 ?_
        obtain ⟨t20, hf⟩ := ck_e hf
        refine e_getiN (pc := 60) 0 4 C dX11_image_60 (by decide) (by decide) g415 rfl t20 ?_
        obtain rfl := so_e hf
        exact e_iret (pc := 63) C hr dX11_image_63 (Nat.le_of_ble_eq_true rfl) (Nat.le_of_ble_eq_true rfl)
      rcases on_e hf with ⟨c22, hf⟩ | ⟨b21, c22, hf⟩
      · refine e_nonnullN (pc := 17) c22 C dX11_image_17 ?_
        refine e_aload_n (pc := 20) C dX11_image_20 0 rfl rfl ?_
        refine e_getr (pc := 21) 11 6 C dX11_image_21 (by decide) (by decide) g579 rfl t3 ?_
        obtain ⟨b23, eb23, hf⟩ := ob_e hf
        refine e_rf eb23 ?_
        refine e_iload_n (pc := 24) C dX11_image_24 1 rfl rfl ?_
        refine e_new (pc := 25) (ci := 6) C dX11_image_25 (by decide) g255 g256 g150 (Nat.le_of_ble_eq_true rfl) (Nat.le_of_ble_eq_true rfl) ?_
        obtain ⟨x24, ex24, hf⟩ := nn_e hf
        refine e_topr ex24 ?_
        obtain ⟨h25, eh25, hf⟩ := nn_e hf
        refine e_hp eh25 ?_
        have tx24 : m_t h25 x24 = .inl 6 := by rw [eh25, ex24]; simp [m_t, m_new, m_n, va_up]
        refine e_dup (pc := 28) C dX11_image_28 rfl ?_
        refine e_aload_n (pc := 29) C dX11_image_29 0 rfl rfl ?_
        obtain ⟨t26, hf⟩ := ck_e hf
        refine e_getr (pc := 30) 11 5 C dX11_image_30 (by decide) (by decide) g578 rfl t26 ?_
        obtain ⟨b27, eb27, hf⟩ := ob_e hf
        refine e_rf eb27 ?_
        obtain ⟨t28, hf⟩ := ck_e hf
        refine e_getrN (pc := 33) 6 0 C dX11_image_33 (by decide) (by decide) g458 rfl t28 ?_
        obtain ⟨b29, eb29, hf⟩ := ob_e hf
        refine e_rf eb29 ?_
        obtain ⟨h30, y31, hf⟩ := ob_e hf
        refine e_callIv (pc := 36) (st := [.ref x24, .int v1, .ref b23]) C (ct_X6_init y31) dX11_image_36 g453 g454 g150 g455 rfl hd_X6_init rfl ⟨Nat.le_of_ble_eq_true rfl, Nat.le_of_ble_eq_true rfl⟩ ⟨Nat.le_of_ble_eq_true rfl, Nat.le_of_ble_eq_true rfl⟩ rfl (Nat.le_of_ble_eq_true rfl) ?_
        obtain ⟨t32, hf⟩ := ck_e hf
        obtain ⟨q33, hf⟩ := ck_e hf
        obtain ⟨n34, tn34, in34⟩ := ix_e q33
        refine e_aast (pc := 39) (ci := 6) 6 (by decide) rfl C dX11_image_39 tn34 t32 in34 ?_
        obtain ⟨h35, eh35, hf⟩ := nn_e hf
        refine e_hp eh35 ?_
        have uh35 : m_t h35 = m_t h30 := by rw [eh35]; exact rfl
        exact W_40 h35 hf
      · refine e_nonnullS (pc := 17) (tgt := 40) c22 C dX11_image_17 (by decide) ?_
        refine e_wd (ce2 := 3) (sl2 := 27) (Nat.le_of_ble_eq_true rfl) (Nat.le_of_ble_eq_true rfl) ?_
        exact W_40 h hf
    · refine e_icmp_lt (pc := 6) (tgt := 11) C dX11_image_6 (by decide) (fun q => absurd q c2) (fun _ => ?_)
      refine e_iconst (v := (-1 : Int32)) (pc := 9) C dX11_image_9 (by decide) ?_
      obtain rfl := so_e hf
      exact e_iret (pc := 10) C hr dX11_image_10 (Nat.le_of_ble_eq_true rfl) (Nat.le_of_ble_eq_true rfl)
theorem dX11_back_0 : decode cX11_back 0 = .ok (.iload_n 1, 1) := by decide +kernel
theorem dX11_back_1 : decode cX11_back 1 = .ok (.ifCond .lt 17, 3) := by decide +kernel
theorem dX11_back_4 : decode cX11_back 4 = .ok (.iload_n 1, 1) := by decide +kernel
theorem dX11_back_5 : decode cX11_back 5 = .ok (.iconst 4, 1) := by decide +kernel
theorem dX11_back_6 : decode cX11_back 6 = .ok (.if_icmp .ge 12, 3) := by decide +kernel
theorem dX11_back_9 : decode cX11_back 9 = .ok (.aload_n 0, 1) := by decide +kernel
theorem dX11_back_10 : decode cX11_back 10 = .ok (.getfield 59, 3) := by decide +kernel
theorem dX11_back_13 : decode cX11_back 13 = .ok (.iload_n 1, 1) := by decide +kernel
theorem dX11_back_14 : decode cX11_back 14 = .ok (.aaload, 1) := by decide +kernel
theorem dX11_back_15 : decode cX11_back 15 = .ok (.ifnonnull 5, 3) := by decide +kernel
theorem dX11_back_18 : decode cX11_back 18 = .ok (.iconst (-1), 1) := by decide +kernel
theorem dX11_back_19 : decode cX11_back 19 = .ok (.ireturn, 1) := by decide +kernel
theorem dX11_back_20 : decode cX11_back 20 = .ok (.aload_n 0, 1) := by decide +kernel
theorem dX11_back_21 : decode cX11_back 21 = .ok (.getfield 55, 3) := by decide +kernel
theorem dX11_back_24 : decode cX11_back 24 = .ok (.aload_n 0, 1) := by decide +kernel
theorem dX11_back_25 : decode cX11_back 25 = .ok (.getfield 59, 3) := by decide +kernel
theorem dX11_back_28 : decode cX11_back 28 = .ok (.iload_n 1, 1) := by decide +kernel
theorem dX11_back_29 : decode cX11_back 29 = .ok (.aaload, 1) := by decide +kernel
theorem dX11_back_30 : decode cX11_back 30 = .ok (.invokevirtual 361, 3) := by decide +kernel
theorem dX11_back_33 : decode cX11_back 33 = .ok (.aload_n 0, 1) := by decide +kernel
theorem dX11_back_34 : decode cX11_back 34 = .ok (.getfield 55, 3) := by decide +kernel
theorem dX11_back_37 : decode cX11_back 37 = .ok (.getfield 63, 3) := by decide +kernel
theorem dX11_back_40 : decode cX11_back 40 = .ok (.getfield 358, 3) := by decide +kernel
theorem dX11_back_43 : decode cX11_back 43 = .ok (.ireturn, 1) := by decide +kernel
def f_X11_back (G : GG) (v0 : Nat) (v1 : Int32) (h : AH) : Option (Int32 × AH) :=
if v1 < 0 then (some ((-1 : Int32), h)) else
if (4 : Int32) ≤ v1 then (some ((-1 : Int32), h)) else
ck (m_t h v0 = .inl 11) <|
ob (m_r h v0 6) fun b4 =>
ck (ixb h b4 (.object RX6) v1 = true) <|
on (m_r h b4 v1.toNatClampNeg) (some ((-1 : Int32), h)) fun b7 =>
ob (m_r h v0 5) fun b9 =>
ob (m_r h v0 6) fun b10 =>
ck (ixb h b10 (.object RX6) v1 = true) <|
ob (m_r h b10 v1.toNatClampNeg) fun b13 =>
ck (m_t h b9 = .inl 6) <|
ob (f_X6_copyFrom G b9 b13 h) fun h15 =>
ck (m_t h15 v0 = .inl 11) <|
ob (m_r h15 v0 5) fun b18 =>
ck (m_t h15 b18 = .inl 6) <|
ob (m_r h15 b18 0) fun b20 =>
ck (m_t h15 b20 = .inl 0) <|
some (m_i h15 b20 4, h15)
set_option maxHeartbeats 4000000 in
set_option maxRecDepth 100000 in
theorem ct_X11_back {G : GG} {l : Launch} {v0 : Nat} {v1 : Int32} {h : AH} {y : Int32 × AH} (hf : f_X11_back G v0 v1 h = some y) : Ct G l yX11_back cX11_back 2 (some .int) 2 85 0 0 [.ref v0, .int v1] h (some (.int y.1), y.2) := by
  refine ct_of (by decide) (Nat.le_of_ble_eq_true rfl) ?_
  intro p e s m args below meth c C hm hr hin
  have C : Cx G cX11_back RX11 p s m args meth c := C
  refine e_lv (lv2 := [(0, .ref v0), (1, .int v1)]) [0, 1] rfl ?_
  unfold f_X11_back at hf
  refine e_iload_n (pc := 0) C dX11_back_0 1 rfl rfl ?_
  rcases it_e hf with ⟨c1, hf⟩ | ⟨c1, hf⟩
  · refine e_if_lt (pc := 1) (tgt := 18) C dX11_back_1 (by decide) (fun _ => ?_) (fun q => absurd c1 q)
    refine e_iconst (v := (-1 : Int32)) (pc := 18) C dX11_back_18 (by decide) ?_
    obtain rfl := so_e hf
    exact e_iret (pc := 19) C hr dX11_back_19 (Nat.le_of_ble_eq_true rfl) (Nat.le_of_ble_eq_true rfl)
  · refine e_if_lt (pc := 1) (tgt := 18) C dX11_back_1 (by decide) (fun q => absurd q c1) (fun _ => ?_)
    refine e_iload_n (pc := 4) C dX11_back_4 1 rfl rfl ?_
    refine e_iconst (v := (4 : Int32)) (pc := 5) C dX11_back_5 (by decide) ?_
    rcases it_e hf with ⟨c2, hf⟩ | ⟨c2, hf⟩
    · refine e_icmp_ge (pc := 6) (tgt := 18) C dX11_back_6 (by decide) (fun _ => ?_) (fun q => absurd c2 q)
      refine e_iconst (v := (-1 : Int32)) (pc := 18) C dX11_back_18 (by decide) ?_
      obtain rfl := so_e hf
      exact e_iret (pc := 19) C hr dX11_back_19 (Nat.le_of_ble_eq_true rfl) (Nat.le_of_ble_eq_true rfl)
    · refine e_icmp_ge (pc := 6) (tgt := 18) C dX11_back_6 (by decide) (fun q => absurd q c2) (fun _ => ?_)
      refine e_aload_n (pc := 9) C dX11_back_9 0 rfl rfl ?_
      obtain ⟨t3, hf⟩ := ck_e hf
      refine e_getr (pc := 10) 11 6 C dX11_back_10 (by decide) (by decide) g579 rfl t3 ?_
      obtain ⟨b4, eb4, hf⟩ := ob_e hf
      refine e_rf eb4 ?_
      refine e_iload_n (pc := 13) C dX11_back_13 1 rfl rfl ?_
      obtain ⟨q5, hf⟩ := ck_e hf
      obtain ⟨n6, tn6, in6⟩ := ix_e q5
      refine e_aald (pc := 14) 6 rfl C dX11_back_14 tn6 in6 ?_
      rcases on_e hf with ⟨c8, hf⟩ | ⟨b7, c8, hf⟩
      · refine e_nonnullN (pc := 15) c8 C dX11_back_15 ?_
        refine e_iconst (v := (-1 : Int32)) (pc := 18) C dX11_back_18 (by decide) ?_
        obtain rfl := so_e hf
        exact e_iret (pc := 19) C hr dX11_back_19 (Nat.le_of_ble_eq_true rfl) (Nat.le_of_ble_eq_true rfl)
      · refine e_nonnullS (pc := 15) (tgt := 20) c8 C dX11_back_15 (by decide) ?_
        refine e_aload_n (pc := 20) C dX11_back_20 0 rfl rfl ?_
        refine e_getr (pc := 21) 11 5 C dX11_back_21 (by decide) (by decide) g578 rfl t3 ?_
        obtain ⟨b9, eb9, hf⟩ := ob_e hf
        refine e_rf eb9 ?_
        refine e_aload_n (pc := 24) C dX11_back_24 0 rfl rfl ?_
        refine e_getr (pc := 25) 11 6 C dX11_back_25 (by decide) (by decide) g579 rfl t3 ?_
        obtain ⟨b10, eb10, hf⟩ := ob_e hf
        refine e_rf eb10 ?_
        refine e_iload_n (pc := 28) C dX11_back_28 1 rfl rfl ?_
        obtain ⟨q11, hf⟩ := ck_e hf
        obtain ⟨n12, tn12, in12⟩ := ix_e q11
        refine e_aald (pc := 29) 6 rfl C dX11_back_29 tn12 in12 ?_
        obtain ⟨b13, eb13, hf⟩ := ob_e hf
        refine e_rf eb13 ?_
        obtain ⟨t14, hf⟩ := ck_e hf
        obtain ⟨h15, y16, hf⟩ := ob_e hf
        refine e_callVv (pc := 30) (st := []) 6 C (ct_X6_copyFrom y16) dX11_back_30 (by decide) t14 g1387 g1388 g1389 g150 g1390 hd_X6_copyFrom rfl ⟨Nat.le_of_ble_eq_true rfl, Nat.le_of_ble_eq_true rfl⟩ ⟨Nat.le_of_ble_eq_true rfl, Nat.le_of_ble_eq_true rfl⟩ rfl (Nat.le_of_ble_eq_true rfl) ?_
        refine e_aload_n (pc := 33) C dX11_back_33 0 rfl rfl ?_
        obtain ⟨t17, hf⟩ := ck_e hf
        refine e_getr (pc := 34) 11 5 C dX11_back_34 (by decide) (by decide) g578 rfl t17 ?_
        obtain ⟨b18, eb18, hf⟩ := ob_e hf
        refine e_rf eb18 ?_
        obtain ⟨t19, hf⟩ := ck_e hf
        refine e_getrN (pc := 37) 6 0 C dX11_back_37 (by decide) (by decide) g458 rfl t19 ?_
        obtain ⟨b20, eb20, hf⟩ := ob_e hf
        refine e_rf eb20 ?_
        obtain ⟨t21, hf⟩ := ck_e hf
        refine e_getiN (pc := 40) 0 4 C dX11_back_40 (by decide) (by decide) g415 rfl t21 ?_
        obtain rfl := so_e hf
        exact e_iret (pc := 43) C hr dX11_back_43 (Nat.le_of_ble_eq_true rfl) (Nat.le_of_ble_eq_true rfl)
theorem dX12_init_0 : decode cX12_init 0 = .ok (.aload_n 0, 1) := by decide +kernel
theorem dX12_init_1 : decode cX12_init 1 = .ok (.invokespecial 3, 3) := by decide +kernel
theorem dX12_init_4 : decode cX12_init 4 = .ok (.aload_n 0, 1) := by decide +kernel
theorem dX12_init_5 : decode cX12_init 5 = .ok (.bipush 17, 2) := by decide +kernel
theorem dX12_init_7 : decode cX12_init 7 = .ok (.newarray .int, 2) := by decide +kernel
theorem dX12_init_9 : decode cX12_init 9 = .ok (.dup, 1) := by decide +kernel
theorem dX12_init_10 : decode cX12_init 10 = .ok (.iconst 0, 1) := by decide +kernel
theorem dX12_init_11 : decode cX12_init 11 = .ok (.iconst 0, 1) := by decide +kernel
theorem dX12_init_12 : decode cX12_init 12 = .ok (.iastore, 1) := by decide +kernel
theorem dX12_init_13 : decode cX12_init 13 = .ok (.dup, 1) := by decide +kernel
theorem dX12_init_14 : decode cX12_init 14 = .ok (.iconst 1, 1) := by decide +kernel
theorem dX12_init_15 : decode cX12_init 15 = .ok (.iconst 0, 1) := by decide +kernel
theorem dX12_init_16 : decode cX12_init 16 = .ok (.iastore, 1) := by decide +kernel
theorem dX12_init_17 : decode cX12_init 17 = .ok (.dup, 1) := by decide +kernel
theorem dX12_init_18 : decode cX12_init 18 = .ok (.iconst 2, 1) := by decide +kernel
theorem dX12_init_19 : decode cX12_init 19 = .ok (.iconst 0, 1) := by decide +kernel
theorem dX12_init_20 : decode cX12_init 20 = .ok (.iastore, 1) := by decide +kernel
theorem dX12_init_21 : decode cX12_init 21 = .ok (.dup, 1) := by decide +kernel
theorem dX12_init_22 : decode cX12_init 22 = .ok (.iconst 3, 1) := by decide +kernel
theorem dX12_init_23 : decode cX12_init 23 = .ok (.iconst 0, 1) := by decide +kernel
theorem dX12_init_24 : decode cX12_init 24 = .ok (.iastore, 1) := by decide +kernel
theorem dX12_init_25 : decode cX12_init 25 = .ok (.dup, 1) := by decide +kernel
theorem dX12_init_26 : decode cX12_init 26 = .ok (.iconst 4, 1) := by decide +kernel
theorem dX12_init_27 : decode cX12_init 27 = .ok (.iconst 0, 1) := by decide +kernel
theorem dX12_init_28 : decode cX12_init 28 = .ok (.iastore, 1) := by decide +kernel
theorem dX12_init_29 : decode cX12_init 29 = .ok (.dup, 1) := by decide +kernel
theorem dX12_init_30 : decode cX12_init 30 = .ok (.iconst 5, 1) := by decide +kernel
theorem dX12_init_31 : decode cX12_init 31 = .ok (.iconst 0, 1) := by decide +kernel
theorem dX12_init_32 : decode cX12_init 32 = .ok (.iastore, 1) := by decide +kernel
theorem dX12_init_33 : decode cX12_init 33 = .ok (.dup, 1) := by decide +kernel
theorem dX12_init_34 : decode cX12_init 34 = .ok (.bipush 6, 2) := by decide +kernel
theorem dX12_init_36 : decode cX12_init 36 = .ok (.iconst 0, 1) := by decide +kernel
theorem dX12_init_37 : decode cX12_init 37 = .ok (.iastore, 1) := by decide +kernel
theorem dX12_init_38 : decode cX12_init 38 = .ok (.dup, 1) := by decide +kernel
theorem dX12_init_39 : decode cX12_init 39 = .ok (.bipush 7, 2) := by decide +kernel
theorem dX12_init_41 : decode cX12_init 41 = .ok (.iconst 0, 1) := by decide +kernel
theorem dX12_init_42 : decode cX12_init 42 = .ok (.iastore, 1) := by decide +kernel
theorem dX12_init_43 : decode cX12_init 43 = .ok (.dup, 1) := by decide +kernel
theorem dX12_init_44 : decode cX12_init 44 = .ok (.bipush 8, 2) := by decide +kernel
theorem dX12_init_46 : decode cX12_init 46 = .ok (.iconst 0, 1) := by decide +kernel
theorem dX12_init_47 : decode cX12_init 47 = .ok (.iastore, 1) := by decide +kernel
theorem dX12_init_48 : decode cX12_init 48 = .ok (.dup, 1) := by decide +kernel
theorem dX12_init_49 : decode cX12_init 49 = .ok (.bipush 9, 2) := by decide +kernel
theorem dX12_init_51 : decode cX12_init 51 = .ok (.iconst 0, 1) := by decide +kernel
theorem dX12_init_52 : decode cX12_init 52 = .ok (.iastore, 1) := by decide +kernel
theorem dX12_init_53 : decode cX12_init 53 = .ok (.dup, 1) := by decide +kernel
theorem dX12_init_54 : decode cX12_init 54 = .ok (.bipush 10, 2) := by decide +kernel
theorem dX12_init_56 : decode cX12_init 56 = .ok (.iconst 0, 1) := by decide +kernel
theorem dX12_init_57 : decode cX12_init 57 = .ok (.iastore, 1) := by decide +kernel
theorem dX12_init_58 : decode cX12_init 58 = .ok (.dup, 1) := by decide +kernel
theorem dX12_init_59 : decode cX12_init 59 = .ok (.bipush 11, 2) := by decide +kernel
theorem dX12_init_61 : decode cX12_init 61 = .ok (.iconst 0, 1) := by decide +kernel
theorem dX12_init_62 : decode cX12_init 62 = .ok (.iastore, 1) := by decide +kernel
theorem dX12_init_63 : decode cX12_init 63 = .ok (.dup, 1) := by decide +kernel
theorem dX12_init_64 : decode cX12_init 64 = .ok (.bipush 12, 2) := by decide +kernel
theorem dX12_init_66 : decode cX12_init 66 = .ok (.iconst 0, 1) := by decide +kernel
theorem dX12_init_67 : decode cX12_init 67 = .ok (.iastore, 1) := by decide +kernel
theorem dX12_init_68 : decode cX12_init 68 = .ok (.dup, 1) := by decide +kernel
theorem dX12_init_69 : decode cX12_init 69 = .ok (.bipush 13, 2) := by decide +kernel
theorem dX12_init_71 : decode cX12_init 71 = .ok (.iconst 0, 1) := by decide +kernel
theorem dX12_init_72 : decode cX12_init 72 = .ok (.iastore, 1) := by decide +kernel
theorem dX12_init_73 : decode cX12_init 73 = .ok (.dup, 1) := by decide +kernel
theorem dX12_init_74 : decode cX12_init 74 = .ok (.bipush 14, 2) := by decide +kernel
theorem dX12_init_76 : decode cX12_init 76 = .ok (.iconst 0, 1) := by decide +kernel
theorem dX12_init_77 : decode cX12_init 77 = .ok (.iastore, 1) := by decide +kernel
theorem dX12_init_78 : decode cX12_init 78 = .ok (.dup, 1) := by decide +kernel
theorem dX12_init_79 : decode cX12_init 79 = .ok (.bipush 15, 2) := by decide +kernel
theorem dX12_init_81 : decode cX12_init 81 = .ok (.iconst 0, 1) := by decide +kernel
theorem dX12_init_82 : decode cX12_init 82 = .ok (.iastore, 1) := by decide +kernel
theorem dX12_init_83 : decode cX12_init 83 = .ok (.dup, 1) := by decide +kernel
theorem dX12_init_84 : decode cX12_init 84 = .ok (.bipush 16, 2) := by decide +kernel
theorem dX12_init_86 : decode cX12_init 86 = .ok (.iconst (-1), 1) := by decide +kernel
theorem dX12_init_87 : decode cX12_init 87 = .ok (.iastore, 1) := by decide +kernel
theorem dX12_init_88 : decode cX12_init 88 = .ok (.putfield 9, 3) := by decide +kernel
theorem dX12_init_91 : decode cX12_init 91 = .ok (.aload_n 0, 1) := by decide +kernel
theorem dX12_init_92 : decode cX12_init 92 = .ok (.bipush 7, 2) := by decide +kernel
theorem dX12_init_94 : decode cX12_init 94 = .ok (.newarray .int, 2) := by decide +kernel
theorem dX12_init_96 : decode cX12_init 96 = .ok (.putfield 13, 3) := by decide +kernel
theorem dX12_init_99 : decode cX12_init 99 = .ok (.aload_n 0, 1) := by decide +kernel
theorem dX12_init_100 : decode cX12_init 100 = .ok (.bipush 8, 2) := by decide +kernel
theorem dX12_init_102 : decode cX12_init 102 = .ok (.newarray .int, 2) := by decide +kernel
theorem dX12_init_104 : decode cX12_init 104 = .ok (.putfield 16, 3) := by decide +kernel
theorem dX12_init_107 : decode cX12_init 107 = .ok (.aload_n 0, 1) := by decide +kernel
theorem dX12_init_108 : decode cX12_init 108 = .ok (.bipush 8, 2) := by decide +kernel
theorem dX12_init_110 : decode cX12_init 110 = .ok (.newarray .int, 2) := by decide +kernel
theorem dX12_init_112 : decode cX12_init 112 = .ok (.putfield 19, 3) := by decide +kernel
theorem dX12_init_115 : decode cX12_init 115 = .ok (.aload_n 0, 1) := by decide +kernel
theorem dX12_init_116 : decode cX12_init 116 = .ok (.bipush 8, 2) := by decide +kernel
theorem dX12_init_118 : decode cX12_init 118 = .ok (.newarray .int, 2) := by decide +kernel
theorem dX12_init_120 : decode cX12_init 120 = .ok (.putfield 22, 3) := by decide +kernel
theorem dX12_init_123 : decode cX12_init 123 = .ok (.aload_n 0, 1) := by decide +kernel
theorem dX12_init_124 : decode cX12_init 124 = .ok (.bipush 8, 2) := by decide +kernel
theorem dX12_init_126 : decode cX12_init 126 = .ok (.newarray .int, 2) := by decide +kernel
theorem dX12_init_128 : decode cX12_init 128 = .ok (.putfield 25, 3) := by decide +kernel
theorem dX12_init_131 : decode cX12_init 131 = .ok (.aload_n 0, 1) := by decide +kernel
theorem dX12_init_132 : decode cX12_init 132 = .ok (.bipush 8, 2) := by decide +kernel
theorem dX12_init_134 : decode cX12_init 134 = .ok (.newarray .int, 2) := by decide +kernel
theorem dX12_init_136 : decode cX12_init 136 = .ok (.putfield 28, 3) := by decide +kernel
theorem dX12_init_139 : decode cX12_init 139 = .ok (.aload_n 0, 1) := by decide +kernel
theorem dX12_init_140 : decode cX12_init 140 = .ok (.bipush 8, 2) := by decide +kernel
theorem dX12_init_142 : decode cX12_init 142 = .ok (.newarray .int, 2) := by decide +kernel
theorem dX12_init_144 : decode cX12_init 144 = .ok (.putfield 31, 3) := by decide +kernel
theorem dX12_init_147 : decode cX12_init 147 = .ok (.aload_n 0, 1) := by decide +kernel
theorem dX12_init_148 : decode cX12_init 148 = .ok (.bipush 8, 2) := by decide +kernel
theorem dX12_init_150 : decode cX12_init 150 = .ok (.newarray .int, 2) := by decide +kernel
theorem dX12_init_152 : decode cX12_init 152 = .ok (.putfield 34, 3) := by decide +kernel
theorem dX12_init_155 : decode cX12_init 155 = .ok (.aload_n 0, 1) := by decide +kernel
theorem dX12_init_156 : decode cX12_init 156 = .ok (.bipush 8, 2) := by decide +kernel
theorem dX12_init_158 : decode cX12_init 158 = .ok (.newarray .int, 2) := by decide +kernel
theorem dX12_init_160 : decode cX12_init 160 = .ok (.putfield 37, 3) := by decide +kernel
theorem dX12_init_163 : decode cX12_init 163 = .ok (.aload_n 0, 1) := by decide +kernel
theorem dX12_init_164 : decode cX12_init 164 = .ok (.bipush 8, 2) := by decide +kernel
theorem dX12_init_166 : decode cX12_init 166 = .ok (.newarray .int, 2) := by decide +kernel
theorem dX12_init_168 : decode cX12_init 168 = .ok (.putfield 40, 3) := by decide +kernel
theorem dX12_init_171 : decode cX12_init 171 = .ok (.aload_n 0, 1) := by decide +kernel
theorem dX12_init_172 : decode cX12_init 172 = .ok (.bipush 8, 2) := by decide +kernel
theorem dX12_init_174 : decode cX12_init 174 = .ok (.newarray .int, 2) := by decide +kernel
theorem dX12_init_176 : decode cX12_init 176 = .ok (.putfield 43, 3) := by decide +kernel
theorem dX12_init_179 : decode cX12_init 179 = .ok (.aload_n 0, 1) := by decide +kernel
theorem dX12_init_180 : decode cX12_init 180 = .ok (.iconst 5, 1) := by decide +kernel
theorem dX12_init_181 : decode cX12_init 181 = .ok (.newarray .int, 2) := by decide +kernel
theorem dX12_init_183 : decode cX12_init 183 = .ok (.putfield 46, 3) := by decide +kernel
theorem dX12_init_186 : decode cX12_init 186 = .ok (.aload_n 0, 1) := by decide +kernel
theorem dX12_init_187 : decode cX12_init 187 = .ok (.iconst 5, 1) := by decide +kernel
theorem dX12_init_188 : decode cX12_init 188 = .ok (.newarray .int, 2) := by decide +kernel
theorem dX12_init_190 : decode cX12_init 190 = .ok (.putfield 49, 3) := by decide +kernel
theorem dX12_init_193 : decode cX12_init 193 = .ok (.aload_n 0, 1) := by decide +kernel
theorem dX12_init_194 : decode cX12_init 194 = .ok (.iconst 5, 1) := by decide +kernel
theorem dX12_init_195 : decode cX12_init 195 = .ok (.newarray .int, 2) := by decide +kernel
theorem dX12_init_197 : decode cX12_init 197 = .ok (.putfield 52, 3) := by decide +kernel
theorem dX12_init_200 : decode cX12_init 200 = .ok (.aload_n 0, 1) := by decide +kernel
theorem dX12_init_201 : decode cX12_init 201 = .ok (.iconst 5, 1) := by decide +kernel
theorem dX12_init_202 : decode cX12_init 202 = .ok (.newarray .int, 2) := by decide +kernel
theorem dX12_init_204 : decode cX12_init 204 = .ok (.putfield 55, 3) := by decide +kernel
theorem dX12_init_207 : decode cX12_init 207 = .ok (.aload_n 0, 1) := by decide +kernel
theorem dX12_init_208 : decode cX12_init 208 = .ok (.iconst 5, 1) := by decide +kernel
theorem dX12_init_209 : decode cX12_init 209 = .ok (.newarray .int, 2) := by decide +kernel
theorem dX12_init_211 : decode cX12_init 211 = .ok (.putfield 58, 3) := by decide +kernel
theorem dX12_init_214 : decode cX12_init 214 = .ok (.aload_n 0, 1) := by decide +kernel
theorem dX12_init_215 : decode cX12_init 215 = .ok (.bipush 10, 2) := by decide +kernel
theorem dX12_init_217 : decode cX12_init 217 = .ok (.newarray .int, 2) := by decide +kernel
theorem dX12_init_219 : decode cX12_init 219 = .ok (.putfield 61, 3) := by decide +kernel
theorem dX12_init_222 : decode cX12_init 222 = .ok (.aload_n 0, 1) := by decide +kernel
theorem dX12_init_223 : decode cX12_init 223 = .ok (.bipush 10, 2) := by decide +kernel
theorem dX12_init_225 : decode cX12_init 225 = .ok (.newarray .int, 2) := by decide +kernel
theorem dX12_init_227 : decode cX12_init 227 = .ok (.putfield 64, 3) := by decide +kernel
theorem dX12_init_230 : decode cX12_init 230 = .ok (.aload_n 0, 1) := by decide +kernel
theorem dX12_init_231 : decode cX12_init 231 = .ok (.bipush 10, 2) := by decide +kernel
theorem dX12_init_233 : decode cX12_init 233 = .ok (.newarray .int, 2) := by decide +kernel
theorem dX12_init_235 : decode cX12_init 235 = .ok (.putfield 67, 3) := by decide +kernel
theorem dX12_init_238 : decode cX12_init 238 = .ok (.aload_n 0, 1) := by decide +kernel
theorem dX12_init_239 : decode cX12_init 239 = .ok (.bipush 8, 2) := by decide +kernel
theorem dX12_init_241 : decode cX12_init 241 = .ok (.newarray .int, 2) := by decide +kernel
theorem dX12_init_243 : decode cX12_init 243 = .ok (.putfield 70, 3) := by decide +kernel
theorem dX12_init_246 : decode cX12_init 246 = .ok (.aload_n 0, 1) := by decide +kernel
theorem dX12_init_247 : decode cX12_init 247 = .ok (.bipush 8, 2) := by decide +kernel
theorem dX12_init_249 : decode cX12_init 249 = .ok (.newarray .int, 2) := by decide +kernel
theorem dX12_init_251 : decode cX12_init 251 = .ok (.putfield 73, 3) := by decide +kernel
theorem dX12_init_254 : decode cX12_init 254 = .ok (.aload_n 0, 1) := by decide +kernel
theorem dX12_init_255 : decode cX12_init 255 = .ok (.bipush 8, 2) := by decide +kernel
theorem dX12_init_257 : decode cX12_init 257 = .ok (.newarray .int, 2) := by decide +kernel
theorem dX12_init_259 : decode cX12_init 259 = .ok (.putfield 76, 3) := by decide +kernel
theorem dX12_init_262 : decode cX12_init 262 = .ok (.aload_n 0, 1) := by decide +kernel
theorem dX12_init_263 : decode cX12_init 263 = .ok (.bipush 8, 2) := by decide +kernel
theorem dX12_init_265 : decode cX12_init 265 = .ok (.newarray .int, 2) := by decide +kernel
theorem dX12_init_267 : decode cX12_init 267 = .ok (.putfield 79, 3) := by decide +kernel
theorem dX12_init_270 : decode cX12_init 270 = .ok (.aload_n 0, 1) := by decide +kernel
theorem dX12_init_271 : decode cX12_init 271 = .ok (.bipush 8, 2) := by decide +kernel
theorem dX12_init_273 : decode cX12_init 273 = .ok (.newarray .int, 2) := by decide +kernel
theorem dX12_init_275 : decode cX12_init 275 = .ok (.putfield 82, 3) := by decide +kernel
theorem dX12_init_278 : decode cX12_init 278 = .ok (.aload_n 0, 1) := by decide +kernel
theorem dX12_init_279 : decode cX12_init 279 = .ok (.bipush 8, 2) := by decide +kernel
theorem dX12_init_281 : decode cX12_init 281 = .ok (.newarray .int, 2) := by decide +kernel
theorem dX12_init_283 : decode cX12_init 283 = .ok (.putfield 85, 3) := by decide +kernel
theorem dX12_init_286 : decode cX12_init 286 = .ok (.aload_n 0, 1) := by decide +kernel
theorem dX12_init_287 : decode cX12_init 287 = .ok (.iconst 5, 1) := by decide +kernel
theorem dX12_init_288 : decode cX12_init 288 = .ok (.newarray .int, 2) := by decide +kernel
theorem dX12_init_290 : decode cX12_init 290 = .ok (.putfield 88, 3) := by decide +kernel
theorem dX12_init_293 : decode cX12_init 293 = .ok (.aload_n 0, 1) := by decide +kernel
theorem dX12_init_294 : decode cX12_init 294 = .ok (.iconst 5, 1) := by decide +kernel
theorem dX12_init_295 : decode cX12_init 295 = .ok (.newarray .int, 2) := by decide +kernel
theorem dX12_init_297 : decode cX12_init 297 = .ok (.putfield 91, 3) := by decide +kernel
theorem dX12_init_300 : decode cX12_init 300 = .ok (.aload_n 0, 1) := by decide +kernel
theorem dX12_init_301 : decode cX12_init 301 = .ok (.iconst 5, 1) := by decide +kernel
theorem dX12_init_302 : decode cX12_init 302 = .ok (.newarray .int, 2) := by decide +kernel
theorem dX12_init_304 : decode cX12_init 304 = .ok (.putfield 94, 3) := by decide +kernel
theorem dX12_init_307 : decode cX12_init 307 = .ok (.aload_n 0, 1) := by decide +kernel
theorem dX12_init_308 : decode cX12_init 308 = .ok (.iconst 5, 1) := by decide +kernel
theorem dX12_init_309 : decode cX12_init 309 = .ok (.newarray .int, 2) := by decide +kernel
theorem dX12_init_311 : decode cX12_init 311 = .ok (.putfield 97, 3) := by decide +kernel
theorem dX12_init_314 : decode cX12_init 314 = .ok (.aload_n 0, 1) := by decide +kernel
theorem dX12_init_315 : decode cX12_init 315 = .ok (.iconst 5, 1) := by decide +kernel
theorem dX12_init_316 : decode cX12_init 316 = .ok (.newarray .int, 2) := by decide +kernel
theorem dX12_init_318 : decode cX12_init 318 = .ok (.putfield 100, 3) := by decide +kernel
theorem dX12_init_321 : decode cX12_init 321 = .ok (.aload_n 0, 1) := by decide +kernel
theorem dX12_init_322 : decode cX12_init 322 = .ok (.bipush 13, 2) := by decide +kernel
theorem dX12_init_324 : decode cX12_init 324 = .ok (.putfield 103, 3) := by decide +kernel
theorem dX12_init_327 : decode cX12_init 327 = .ok (.aload_n 0, 1) := by decide +kernel
theorem dX12_init_328 : decode cX12_init 328 = .ok (.sipush 400, 3) := by decide +kernel
theorem dX12_init_331 : decode cX12_init 331 = .ok (.newarray .byte, 2) := by decide +kernel
theorem dX12_init_333 : decode cX12_init 333 = .ok (.putfield 107, 3) := by decide +kernel
theorem dX12_init_336 : decode cX12_init 336 = .ok (.aload_n 0, 1) := by decide +kernel
theorem dX12_init_337 : decode cX12_init 337 = .ok (.sipush 1800, 3) := by decide +kernel
theorem dX12_init_340 : decode cX12_init 340 = .ok (.newarray .int, 2) := by decide +kernel
theorem dX12_init_342 : decode cX12_init 342 = .ok (.putfield 111, 3) := by decide +kernel
theorem dX12_init_345 : decode cX12_init 345 = .ok (.aload_n 0, 1) := by decide +kernel
theorem dX12_init_346 : decode cX12_init 346 = .ok (.sipush 1800, 3) := by decide +kernel
theorem dX12_init_349 : decode cX12_init 349 = .ok (.newarray .int, 2) := by decide +kernel
theorem dX12_init_351 : decode cX12_init 351 = .ok (.putfield 114, 3) := by decide +kernel
theorem dX12_init_354 : decode cX12_init 354 = .ok (.aload_n 0, 1) := by decide +kernel
theorem dX12_init_355 : decode cX12_init 355 = .ok (.bipush 6, 2) := by decide +kernel
theorem dX12_init_357 : decode cX12_init 357 = .ok (.newarray .int, 2) := by decide +kernel
theorem dX12_init_359 : decode cX12_init 359 = .ok (.putfield 117, 3) := by decide +kernel
theorem dX12_init_362 : decode cX12_init 362 = .ok (.aload_n 0, 1) := by decide +kernel
theorem dX12_init_363 : decode cX12_init 363 = .ok (.bipush 72, 2) := by decide +kernel
theorem dX12_init_365 : decode cX12_init 365 = .ok (.newarray .int, 2) := by decide +kernel
theorem dX12_init_367 : decode cX12_init 367 = .ok (.putfield 120, 3) := by decide +kernel
theorem dX12_init_370 : decode cX12_init 370 = .ok (.aload_n 0, 1) := by decide +kernel
theorem dX12_init_371 : decode cX12_init 371 = .ok (.bipush 72, 2) := by decide +kernel
theorem dX12_init_373 : decode cX12_init 373 = .ok (.newarray .int, 2) := by decide +kernel
theorem dX12_init_375 : decode cX12_init 375 = .ok (.putfield 123, 3) := by decide +kernel
theorem dX12_init_378 : decode cX12_init 378 = .ok (.aload_n 0, 1) := by decide +kernel
theorem dX12_init_379 : decode cX12_init 379 = .ok (.bipush 72, 2) := by decide +kernel
theorem dX12_init_381 : decode cX12_init 381 = .ok (.newarray .int, 2) := by decide +kernel
theorem dX12_init_383 : decode cX12_init 383 = .ok (.putfield 126, 3) := by decide +kernel
theorem dX12_init_386 : decode cX12_init 386 = .ok (.aload_n 0, 1) := by decide +kernel
theorem dX12_init_387 : decode cX12_init 387 = .ok (.sipush 402, 3) := by decide +kernel
theorem dX12_init_390 : decode cX12_init 390 = .ok (.newarray .int, 2) := by decide +kernel
theorem dX12_init_392 : decode cX12_init 392 = .ok (.putfield 129, 3) := by decide +kernel
theorem dX12_init_395 : decode cX12_init 395 = .ok (.aload_n 0, 1) := by decide +kernel
theorem dX12_init_396 : decode cX12_init 396 = .ok (.bipush 13, 2) := by decide +kernel
theorem dX12_init_398 : decode cX12_init 398 = .ok (.newarray .long, 2) := by decide +kernel
theorem dX12_init_400 : decode cX12_init 400 = .ok (.putfield 132, 3) := by decide +kernel
theorem dX12_init_403 : decode cX12_init 403 = .ok (.aload_n 0, 1) := by decide +kernel
theorem dX12_init_404 : decode cX12_init 404 = .ok (.sipush 300, 3) := by decide +kernel
theorem dX12_init_407 : decode cX12_init 407 = .ok (.newarray .long, 2) := by decide +kernel
theorem dX12_init_409 : decode cX12_init 409 = .ok (.putfield 136, 3) := by decide +kernel
theorem dX12_init_412 : decode cX12_init 412 = .ok (.aload_n 0, 1) := by decide +kernel
theorem dX12_init_413 : decode cX12_init 413 = .ok (.bipush 6, 2) := by decide +kernel
theorem dX12_init_415 : decode cX12_init 415 = .ok (.newarray .int, 2) := by decide +kernel
theorem dX12_init_417 : decode cX12_init 417 = .ok (.putfield 139, 3) := by decide +kernel
theorem dX12_init_420 : decode cX12_init 420 = .ok (.aload_n 0, 1) := by decide +kernel
theorem dX12_init_421 : decode cX12_init 421 = .ok (.sipush 1020, 3) := by decide +kernel
theorem dX12_init_424 : decode cX12_init 424 = .ok (.newarray .int, 2) := by decide +kernel
theorem dX12_init_426 : decode cX12_init 426 = .ok (.putfield 142, 3) := by decide +kernel
theorem dX12_init_429 : decode cX12_init 429 = .ok (.aload_n 0, 1) := by decide +kernel
theorem dX12_init_430 : decode cX12_init 430 = .ok (.iconst 1, 1) := by decide +kernel
theorem dX12_init_431 : decode cX12_init 431 = .ok (.newarray .int, 2) := by decide +kernel
theorem dX12_init_433 : decode cX12_init 433 = .ok (.putfield 145, 3) := by decide +kernel
theorem dX12_init_436 : decode cX12_init 436 = .ok (.aload_n 0, 1) := by decide +kernel
theorem dX12_init_437 : decode cX12_init 437 = .ok (.bipush 8, 2) := by decide +kernel
theorem dX12_init_439 : decode cX12_init 439 = .ok (.newarray .int, 2) := by decide +kernel
theorem dX12_init_441 : decode cX12_init 441 = .ok (.putfield 148, 3) := by decide +kernel
theorem dX12_init_444 : decode cX12_init 444 = .ok (.aload_n 0, 1) := by decide +kernel
theorem dX12_init_445 : decode cX12_init 445 = .ok (.bipush 8, 2) := by decide +kernel
theorem dX12_init_447 : decode cX12_init 447 = .ok (.newarray .int, 2) := by decide +kernel
theorem dX12_init_449 : decode cX12_init 449 = .ok (.putfield 151, 3) := by decide +kernel
theorem dX12_init_452 : decode cX12_init 452 = .ok (.aload_n 0, 1) := by decide +kernel
theorem dX12_init_453 : decode cX12_init 453 = .ok (.sipush 256, 3) := by decide +kernel
theorem dX12_init_456 : decode cX12_init 456 = .ok (.newarray .int, 2) := by decide +kernel
theorem dX12_init_458 : decode cX12_init 458 = .ok (.putfield 154, 3) := by decide +kernel
theorem dX12_init_461 : decode cX12_init 461 = .ok (.aload_n 0, 1) := by decide +kernel
theorem dX12_init_462 : decode cX12_init 462 = .ok (.bipush 8, 2) := by decide +kernel
theorem dX12_init_464 : decode cX12_init 464 = .ok (.newarray .int, 2) := by decide +kernel
theorem dX12_init_466 : decode cX12_init 466 = .ok (.putfield 157, 3) := by decide +kernel
theorem dX12_init_469 : decode cX12_init 469 = .ok (.aload_n 0, 1) := by decide +kernel
theorem dX12_init_470 : decode cX12_init 470 = .ok (.sipush 9150, 3) := by decide +kernel
theorem dX12_init_473 : decode cX12_init 473 = .ok (.newarray .int, 2) := by decide +kernel
theorem dX12_init_475 : decode cX12_init 475 = .ok (.putfield 160, 3) := by decide +kernel
theorem dX12_init_478 : decode cX12_init 478 = .ok (.aload_n 0, 1) := by decide +kernel
theorem dX12_init_479 : decode cX12_init 479 = .ok (.sipush 1464, 3) := by decide +kernel
theorem dX12_init_482 : decode cX12_init 482 = .ok (.newarray .int, 2) := by decide +kernel
theorem dX12_init_484 : decode cX12_init 484 = .ok (.putfield 163, 3) := by decide +kernel
theorem dX12_init_487 : decode cX12_init 487 = .ok (.aload_n 0, 1) := by decide +kernel
theorem dX12_init_488 : decode cX12_init 488 = .ok (.sipush 144, 3) := by decide +kernel
theorem dX12_init_491 : decode cX12_init 491 = .ok (.newarray .int, 2) := by decide +kernel
theorem dX12_init_493 : decode cX12_init 493 = .ok (.putfield 166, 3) := by decide +kernel
theorem dX12_init_496 : decode cX12_init 496 = .ok (.aload_n 0, 1) := by decide +kernel
theorem dX12_init_497 : decode cX12_init 497 = .ok (.bipush 24, 2) := by decide +kernel
theorem dX12_init_499 : decode cX12_init 499 = .ok (.newarray .int, 2) := by decide +kernel
theorem dX12_init_501 : decode cX12_init 501 = .ok (.putfield 169, 3) := by decide +kernel
theorem dX12_init_504 : decode cX12_init 504 = .ok (.aload_n 0, 1) := by decide +kernel
theorem dX12_init_505 : decode cX12_init 505 = .ok (.bipush 24, 2) := by decide +kernel
theorem dX12_init_507 : decode cX12_init 507 = .ok (.newarray .int, 2) := by decide +kernel
theorem dX12_init_509 : decode cX12_init 509 = .ok (.putfield 172, 3) := by decide +kernel
theorem dX12_init_512 : decode cX12_init 512 = .ok (.aload_n 0, 1) := by decide +kernel
theorem dX12_init_513 : decode cX12_init 513 = .ok (.bipush 24, 2) := by decide +kernel
theorem dX12_init_515 : decode cX12_init 515 = .ok (.newarray .int, 2) := by decide +kernel
theorem dX12_init_517 : decode cX12_init 517 = .ok (.putfield 175, 3) := by decide +kernel
theorem dX12_init_520 : decode cX12_init 520 = .ok (.aload_n 0, 1) := by decide +kernel
theorem dX12_init_521 : decode cX12_init 521 = .ok (.bipush 8, 2) := by decide +kernel
theorem dX12_init_523 : decode cX12_init 523 = .ok (.newarray .int, 2) := by decide +kernel
theorem dX12_init_525 : decode cX12_init 525 = .ok (.putfield 178, 3) := by decide +kernel
theorem dX12_init_528 : decode cX12_init 528 = .ok (.aload_n 0, 1) := by decide +kernel
theorem dX12_init_529 : decode cX12_init 529 = .ok (.bipush 81, 2) := by decide +kernel
theorem dX12_init_531 : decode cX12_init 531 = .ok (.newarray .int, 2) := by decide +kernel
theorem dX12_init_533 : decode cX12_init 533 = .ok (.putfield 181, 3) := by decide +kernel
theorem dX12_init_536 : decode cX12_init 536 = .ok (.aload_n 0, 1) := by decide +kernel
theorem dX12_init_537 : decode cX12_init 537 = .ok (.bipush 7, 2) := by decide +kernel
theorem dX12_init_539 : decode cX12_init 539 = .ok (.newarray .int, 2) := by decide +kernel
theorem dX12_init_541 : decode cX12_init 541 = .ok (.putfield 184, 3) := by decide +kernel
theorem dX12_init_544 : decode cX12_init 544 = .ok (.aload_n 0, 1) := by decide +kernel
theorem dX12_init_545 : decode cX12_init 545 = .ok (.bipush 7, 2) := by decide +kernel
theorem dX12_init_547 : decode cX12_init 547 = .ok (.newarray .int, 2) := by decide +kernel
theorem dX12_init_549 : decode cX12_init 549 = .ok (.putfield 187, 3) := by decide +kernel
theorem dX12_init_552 : decode cX12_init 552 = .ok (.aload_n 0, 1) := by decide +kernel
theorem dX12_init_553 : decode cX12_init 553 = .ok (.sipush 1464, 3) := by decide +kernel
theorem dX12_init_556 : decode cX12_init 556 = .ok (.newarray .int, 2) := by decide +kernel
theorem dX12_init_558 : decode cX12_init 558 = .ok (.putfield 190, 3) := by decide +kernel
theorem dX12_init_561 : decode cX12_init 561 = .ok (.aload_n 0, 1) := by decide +kernel
theorem dX12_init_562 : decode cX12_init 562 = .ok (.bipush 24, 2) := by decide +kernel
theorem dX12_init_564 : decode cX12_init 564 = .ok (.newarray .boolean, 2) := by decide +kernel
theorem dX12_init_566 : decode cX12_init 566 = .ok (.putfield 193, 3) := by decide +kernel
theorem dX12_init_569 : decode cX12_init 569 = .ok (.aload_n 0, 1) := by decide +kernel
theorem dX12_init_570 : decode cX12_init 570 = .ok (.sipush 6250, 3) := by decide +kernel
theorem dX12_init_573 : decode cX12_init 573 = .ok (.newarray .int, 2) := by decide +kernel
theorem dX12_init_575 : decode cX12_init 575 = .ok (.putfield 197, 3) := by decide +kernel
theorem dX12_init_578 : decode cX12_init 578 = .ok (.aload_n 0, 1) := by decide +kernel
theorem dX12_init_579 : decode cX12_init 579 = .ok (.iconst 4, 1) := by decide +kernel
theorem dX12_init_580 : decode cX12_init 580 = .ok (.newarray .boolean, 2) := by decide +kernel
theorem dX12_init_582 : decode cX12_init 582 = .ok (.putfield 200, 3) := by decide +kernel
theorem dX12_init_585 : decode cX12_init 585 = .ok (.return_, 1) := by decide +kernel
set_option maxRecDepth 100000 in
def f_X12_init (G : GG) (v0 : Nat) (h : AH) : Option (AH) :=
nn (m_n h) fun x1 =>
nn (m_new h (.inr (.int, 17))) fun h2 =>
ck (ixb h2 x1 .int (0 : Int32) = true) <|
nn (m_si h2 x1 (0 : Int32).toNatClampNeg (0 : Int32)) fun h5 =>
ck (ixb h5 x1 .int (1 : Int32) = true) <|
nn (m_si h5 x1 (1 : Int32).toNatClampNeg (0 : Int32)) fun h8 =>
ck (ixb h8 x1 .int (2 : Int32) = true) <|
nn (m_si h8 x1 (2 : Int32).toNatClampNeg (0 : Int32)) fun h11 =>
ck (ixb h11 x1 .int (3 : Int32) = true) <|
nn (m_si h11 x1 (3 : Int32).toNatClampNeg (0 : Int32)) fun h14 =>
ck (ixb h14 x1 .int (4 : Int32) = true) <|
nn (m_si h14 x1 (4 : Int32).toNatClampNeg (0 : Int32)) fun h17 =>
ck (ixb h17 x1 .int (5 : Int32) = true) <|
nn (m_si h17 x1 (5 : Int32).toNatClampNeg (0 : Int32)) fun h20 =>
ck (ixb h20 x1 .int (6 : Int32) = true) <|
nn (m_si h20 x1 (6 : Int32).toNatClampNeg (0 : Int32)) fun h23 =>
ck (ixb h23 x1 .int (7 : Int32) = true) <|
nn (m_si h23 x1 (7 : Int32).toNatClampNeg (0 : Int32)) fun h26 =>
ck (ixb h26 x1 .int (8 : Int32) = true) <|
nn (m_si h26 x1 (8 : Int32).toNatClampNeg (0 : Int32)) fun h29 =>
ck (ixb h29 x1 .int (9 : Int32) = true) <|
nn (m_si h29 x1 (9 : Int32).toNatClampNeg (0 : Int32)) fun h32 =>
ck (ixb h32 x1 .int (10 : Int32) = true) <|
nn (m_si h32 x1 (10 : Int32).toNatClampNeg (0 : Int32)) fun h35 =>
ck (ixb h35 x1 .int (11 : Int32) = true) <|
nn (m_si h35 x1 (11 : Int32).toNatClampNeg (0 : Int32)) fun h38 =>
ck (ixb h38 x1 .int (12 : Int32) = true) <|
nn (m_si h38 x1 (12 : Int32).toNatClampNeg (0 : Int32)) fun h41 =>
ck (ixb h41 x1 .int (13 : Int32) = true) <|
nn (m_si h41 x1 (13 : Int32).toNatClampNeg (0 : Int32)) fun h44 =>
ck (ixb h44 x1 .int (14 : Int32) = true) <|
nn (m_si h44 x1 (14 : Int32).toNatClampNeg (0 : Int32)) fun h47 =>
ck (ixb h47 x1 .int (15 : Int32) = true) <|
nn (m_si h47 x1 (15 : Int32).toNatClampNeg (0 : Int32)) fun h50 =>
ck (ixb h50 x1 .int (16 : Int32) = true) <|
nn (m_si h50 x1 (16 : Int32).toNatClampNeg (-1 : Int32)) fun h53 =>
ck (m_t h53 v0 = .inl 12) <|
nn (m_sr h53 v0 1 (some x1)) fun h55 =>
nn (m_n h55) fun x56 =>
nn (m_new h55 (.inr (.int, 7))) fun h57 =>
ck (m_t h57 v0 = .inl 12) <|
nn (m_sr h57 v0 2 (some x56)) fun h59 =>
nn (m_n h59) fun x60 =>
nn (m_new h59 (.inr (.int, 8))) fun h61 =>
ck (m_t h61 v0 = .inl 12) <|
nn (m_sr h61 v0 3 (some x60)) fun h63 =>
nn (m_n h63) fun x64 =>
nn (m_new h63 (.inr (.int, 8))) fun h65 =>
ck (m_t h65 v0 = .inl 12) <|
nn (m_sr h65 v0 4 (some x64)) fun h67 =>
nn (m_n h67) fun x68 =>
nn (m_new h67 (.inr (.int, 8))) fun h69 =>
ck (m_t h69 v0 = .inl 12) <|
nn (m_sr h69 v0 5 (some x68)) fun h71 =>
nn (m_n h71) fun x72 =>
nn (m_new h71 (.inr (.int, 8))) fun h73 =>
ck (m_t h73 v0 = .inl 12) <|
nn (m_sr h73 v0 6 (some x72)) fun h75 =>
nn (m_n h75) fun x76 =>
nn (m_new h75 (.inr (.int, 8))) fun h77 =>
ck (m_t h77 v0 = .inl 12) <|
nn (m_sr h77 v0 7 (some x76)) fun h79 =>
nn (m_n h79) fun x80 =>
nn (m_new h79 (.inr (.int, 8))) fun h81 =>
ck (m_t h81 v0 = .inl 12) <|
nn (m_sr h81 v0 8 (some x80)) fun h83 =>
nn (m_n h83) fun x84 =>
nn (m_new h83 (.inr (.int, 8))) fun h85 =>
ck (m_t h85 v0 = .inl 12) <|
nn (m_sr h85 v0 9 (some x84)) fun h87 =>
nn (m_n h87) fun x88 =>
nn (m_new h87 (.inr (.int, 8))) fun h89 =>
ck (m_t h89 v0 = .inl 12) <|
nn (m_sr h89 v0 10 (some x88)) fun h91 =>
nn (m_n h91) fun x92 =>
nn (m_new h91 (.inr (.int, 8))) fun h93 =>
ck (m_t h93 v0 = .inl 12) <|
nn (m_sr h93 v0 11 (some x92)) fun h95 =>
nn (m_n h95) fun x96 =>
nn (m_new h95 (.inr (.int, 8))) fun h97 =>
ck (m_t h97 v0 = .inl 12) <|
nn (m_sr h97 v0 12 (some x96)) fun h99 =>
nn (m_n h99) fun x100 =>
nn (m_new h99 (.inr (.int, 5))) fun h101 =>
ck (m_t h101 v0 = .inl 12) <|
nn (m_sr h101 v0 13 (some x100)) fun h103 =>
nn (m_n h103) fun x104 =>
nn (m_new h103 (.inr (.int, 5))) fun h105 =>
ck (m_t h105 v0 = .inl 12) <|
nn (m_sr h105 v0 14 (some x104)) fun h107 =>
nn (m_n h107) fun x108 =>
nn (m_new h107 (.inr (.int, 5))) fun h109 =>
ck (m_t h109 v0 = .inl 12) <|
nn (m_sr h109 v0 15 (some x108)) fun h111 =>
nn (m_n h111) fun x112 =>
nn (m_new h111 (.inr (.int, 5))) fun h113 =>
ck (m_t h113 v0 = .inl 12) <|
nn (m_sr h113 v0 16 (some x112)) fun h115 =>
nn (m_n h115) fun x116 =>
nn (m_new h115 (.inr (.int, 5))) fun h117 =>
ck (m_t h117 v0 = .inl 12) <|
nn (m_sr h117 v0 17 (some x116)) fun h119 =>
nn (m_n h119) fun x120 =>
nn (m_new h119 (.inr (.int, 10))) fun h121 =>
ck (m_t h121 v0 = .inl 12) <|
nn (m_sr h121 v0 18 (some x120)) fun h123 =>
nn (m_n h123) fun x124 =>
nn (m_new h123 (.inr (.int, 10))) fun h125 =>
ck (m_t h125 v0 = .inl 12) <|
nn (m_sr h125 v0 19 (some x124)) fun h127 =>
nn (m_n h127) fun x128 =>
nn (m_new h127 (.inr (.int, 10))) fun h129 =>
ck (m_t h129 v0 = .inl 12) <|
nn (m_sr h129 v0 20 (some x128)) fun h131 =>
nn (m_n h131) fun x132 =>
nn (m_new h131 (.inr (.int, 8))) fun h133 =>
ck (m_t h133 v0 = .inl 12) <|
nn (m_sr h133 v0 21 (some x132)) fun h135 =>
nn (m_n h135) fun x136 =>
nn (m_new h135 (.inr (.int, 8))) fun h137 =>
ck (m_t h137 v0 = .inl 12) <|
nn (m_sr h137 v0 22 (some x136)) fun h139 =>
nn (m_n h139) fun x140 =>
nn (m_new h139 (.inr (.int, 8))) fun h141 =>
ck (m_t h141 v0 = .inl 12) <|
nn (m_sr h141 v0 23 (some x140)) fun h143 =>
nn (m_n h143) fun x144 =>
nn (m_new h143 (.inr (.int, 8))) fun h145 =>
ck (m_t h145 v0 = .inl 12) <|
nn (m_sr h145 v0 24 (some x144)) fun h147 =>
nn (m_n h147) fun x148 =>
nn (m_new h147 (.inr (.int, 8))) fun h149 =>
ck (m_t h149 v0 = .inl 12) <|
nn (m_sr h149 v0 25 (some x148)) fun h151 =>
nn (m_n h151) fun x152 =>
nn (m_new h151 (.inr (.int, 8))) fun h153 =>
ck (m_t h153 v0 = .inl 12) <|
nn (m_sr h153 v0 26 (some x152)) fun h155 =>
nn (m_n h155) fun x156 =>
nn (m_new h155 (.inr (.int, 5))) fun h157 =>
ck (m_t h157 v0 = .inl 12) <|
nn (m_sr h157 v0 27 (some x156)) fun h159 =>
nn (m_n h159) fun x160 =>
nn (m_new h159 (.inr (.int, 5))) fun h161 =>
ck (m_t h161 v0 = .inl 12) <|
nn (m_sr h161 v0 28 (some x160)) fun h163 =>
nn (m_n h163) fun x164 =>
nn (m_new h163 (.inr (.int, 5))) fun h165 =>
ck (m_t h165 v0 = .inl 12) <|
nn (m_sr h165 v0 29 (some x164)) fun h167 =>
nn (m_n h167) fun x168 =>
nn (m_new h167 (.inr (.int, 5))) fun h169 =>
ck (m_t h169 v0 = .inl 12) <|
nn (m_sr h169 v0 30 (some x168)) fun h171 =>
nn (m_n h171) fun x172 =>
nn (m_new h171 (.inr (.int, 5))) fun h173 =>
ck (m_t h173 v0 = .inl 12) <|
nn (m_sr h173 v0 31 (some x172)) fun h175 =>
nn (m_si h175 v0 41 (13 : Int32)) fun h176 =>
nn (m_n h176) fun x177 =>
nn (m_new h176 (.inr (.byte, 400))) fun h178 =>
ck (m_t h178 v0 = .inl 12) <|
nn (m_sr h178 v0 42 (some x177)) fun h180 =>
nn (m_n h180) fun x181 =>
nn (m_new h180 (.inr (.int, 1800))) fun h182 =>
ck (m_t h182 v0 = .inl 12) <|
nn (m_sr h182 v0 43 (some x181)) fun h184 =>
nn (m_n h184) fun x185 =>
nn (m_new h184 (.inr (.int, 1800))) fun h186 =>
ck (m_t h186 v0 = .inl 12) <|
nn (m_sr h186 v0 44 (some x185)) fun h188 =>
nn (m_n h188) fun x189 =>
nn (m_new h188 (.inr (.int, 6))) fun h190 =>
ck (m_t h190 v0 = .inl 12) <|
nn (m_sr h190 v0 45 (some x189)) fun h192 =>
nn (m_n h192) fun x193 =>
nn (m_new h192 (.inr (.int, 72))) fun h194 =>
ck (m_t h194 v0 = .inl 12) <|
nn (m_sr h194 v0 46 (some x193)) fun h196 =>
nn (m_n h196) fun x197 =>
nn (m_new h196 (.inr (.int, 72))) fun h198 =>
ck (m_t h198 v0 = .inl 12) <|
nn (m_sr h198 v0 47 (some x197)) fun h200 =>
nn (m_n h200) fun x201 =>
nn (m_new h200 (.inr (.int, 72))) fun h202 =>
ck (m_t h202 v0 = .inl 12) <|
nn (m_sr h202 v0 48 (some x201)) fun h204 =>
nn (m_n h204) fun x205 =>
nn (m_new h204 (.inr (.int, 402))) fun h206 =>
ck (m_t h206 v0 = .inl 12) <|
nn (m_sr h206 v0 49 (some x205)) fun h208 =>
nn (m_n h208) fun x209 =>
nn (m_new h208 (.inr (.long, 13))) fun h210 =>
ck (m_t h210 v0 = .inl 12) <|
nn (m_sr h210 v0 50 (some x209)) fun h212 =>
nn (m_n h212) fun x213 =>
nn (m_new h212 (.inr (.long, 300))) fun h214 =>
ck (m_t h214 v0 = .inl 12) <|
nn (m_sr h214 v0 51 (some x213)) fun h216 =>
nn (m_n h216) fun x217 =>
nn (m_new h216 (.inr (.int, 6))) fun h218 =>
ck (m_t h218 v0 = .inl 12) <|
nn (m_sr h218 v0 52 (some x217)) fun h220 =>
nn (m_n h220) fun x221 =>
nn (m_new h220 (.inr (.int, 1020))) fun h222 =>
ck (m_t h222 v0 = .inl 12) <|
nn (m_sr h222 v0 53 (some x221)) fun h224 =>
nn (m_n h224) fun x225 =>
nn (m_new h224 (.inr (.int, 1))) fun h226 =>
ck (m_t h226 v0 = .inl 12) <|
nn (m_sr h226 v0 54 (some x225)) fun h228 =>
nn (m_n h228) fun x229 =>
nn (m_new h228 (.inr (.int, 8))) fun h230 =>
ck (m_t h230 v0 = .inl 12) <|
nn (m_sr h230 v0 58 (some x229)) fun h232 =>
nn (m_n h232) fun x233 =>
nn (m_new h232 (.inr (.int, 8))) fun h234 =>
ck (m_t h234 v0 = .inl 12) <|
nn (m_sr h234 v0 59 (some x233)) fun h236 =>
nn (m_n h236) fun x237 =>
nn (m_new h236 (.inr (.int, 256))) fun h238 =>
ck (m_t h238 v0 = .inl 12) <|
nn (m_sr h238 v0 60 (some x237)) fun h240 =>
nn (m_n h240) fun x241 =>
nn (m_new h240 (.inr (.int, 8))) fun h242 =>
ck (m_t h242 v0 = .inl 12) <|
nn (m_sr h242 v0 61 (some x241)) fun h244 =>
nn (m_n h244) fun x245 =>
nn (m_new h244 (.inr (.int, 9150))) fun h246 =>
ck (m_t h246 v0 = .inl 12) <|
nn (m_sr h246 v0 65 (some x245)) fun h248 =>
nn (m_n h248) fun x249 =>
nn (m_new h248 (.inr (.int, 1464))) fun h250 =>
ck (m_t h250 v0 = .inl 12) <|
nn (m_sr h250 v0 66 (some x249)) fun h252 =>
nn (m_n h252) fun x253 =>
nn (m_new h252 (.inr (.int, 144))) fun h254 =>
ck (m_t h254 v0 = .inl 12) <|
nn (m_sr h254 v0 67 (some x253)) fun h256 =>
nn (m_n h256) fun x257 =>
nn (m_new h256 (.inr (.int, 24))) fun h258 =>
ck (m_t h258 v0 = .inl 12) <|
nn (m_sr h258 v0 68 (some x257)) fun h260 =>
nn (m_n h260) fun x261 =>
nn (m_new h260 (.inr (.int, 24))) fun h262 =>
ck (m_t h262 v0 = .inl 12) <|
nn (m_sr h262 v0 69 (some x261)) fun h264 =>
nn (m_n h264) fun x265 =>
nn (m_new h264 (.inr (.int, 24))) fun h266 =>
ck (m_t h266 v0 = .inl 12) <|
nn (m_sr h266 v0 70 (some x265)) fun h268 =>
nn (m_n h268) fun x269 =>
nn (m_new h268 (.inr (.int, 8))) fun h270 =>
ck (m_t h270 v0 = .inl 12) <|
nn (m_sr h270 v0 71 (some x269)) fun h272 =>
nn (m_n h272) fun x273 =>
nn (m_new h272 (.inr (.int, 81))) fun h274 =>
ck (m_t h274 v0 = .inl 12) <|
nn (m_sr h274 v0 72 (some x273)) fun h276 =>
nn (m_n h276) fun x277 =>
nn (m_new h276 (.inr (.int, 7))) fun h278 =>
ck (m_t h278 v0 = .inl 12) <|
nn (m_sr h278 v0 73 (some x277)) fun h280 =>
nn (m_n h280) fun x281 =>
nn (m_new h280 (.inr (.int, 7))) fun h282 =>
ck (m_t h282 v0 = .inl 12) <|
nn (m_sr h282 v0 74 (some x281)) fun h284 =>
nn (m_n h284) fun x285 =>
nn (m_new h284 (.inr (.int, 1464))) fun h286 =>
ck (m_t h286 v0 = .inl 12) <|
nn (m_sr h286 v0 79 (some x285)) fun h288 =>
nn (m_n h288) fun x289 =>
nn (m_new h288 (.inr (.boolean, 24))) fun h290 =>
ck (m_t h290 v0 = .inl 12) <|
nn (m_sr h290 v0 80 (some x289)) fun h292 =>
nn (m_n h292) fun x293 =>
nn (m_new h292 (.inr (.int, 6250))) fun h294 =>
ck (m_t h294 v0 = .inl 12) <|
nn (m_sr h294 v0 81 (some x293)) fun h296 =>
nn (m_n h296) fun x297 =>
nn (m_new h296 (.inr (.boolean, 4))) fun h298 =>
ck (m_t h298 v0 = .inl 12) <|
nn (m_sr h298 v0 82 (some x297)) fun h300 =>
some h300
set_option maxHeartbeats 4000000 in
set_option maxRecDepth 100000 in
theorem ct_X12_init {G : GG} {l : Launch} {v0 : Nat} {h : AH} {y : AH} (hf : f_X12_init G v0 h = some y) : Ct G l yX12_init cX12_init 1 none 1 24 62 25151 [.ref v0] h (none, y) := by
  refine ct_of (by decide) (Nat.le_of_ble_eq_true rfl) ?_
  intro p e s m args below meth c C hm hr hin
  have C : Cx G cX12_init RX12 p s m args meth c := C
  refine e_lv (lv2 := [(0, .ref v0)]) [0] rfl ?_
  unfold f_X12_init at hf
  refine e_aload_n (pc := 0) C dX12_init_0 0 rfl rfl ?_
  refine e_objInit (pc := 1) C dX12_init_1 g1401 g173 g174 (Nat.le_of_ble_eq_true rfl) (Nat.le_of_ble_eq_true rfl) ?_
  refine e_aload_n (pc := 4) C dX12_init_4 0 rfl rfl ?_
  refine e_bipush (v := (17 : Int32)) (pc := 5) C dX12_init_5 (by decide) ?_
  refine e_newi (pc := 7) C dX12_init_7 g220 (by decide) (N := 17) (by decide) (by decide) (Nat.le_of_ble_eq_true rfl) (Nat.le_of_ble_eq_true rfl) ?_
  obtain ⟨x1, ex1, hf⟩ := nn_e hf
  refine e_topr ex1 ?_
  obtain ⟨h2, eh2, hf⟩ := nn_e hf
  refine e_hp eh2 ?_
  refine e_dup (pc := 9) C dX12_init_9 rfl ?_
  refine e_iconst (v := (0 : Int32)) (pc := 10) C dX12_init_10 (by decide) ?_
  refine e_iconst (v := (0 : Int32)) (pc := 11) C dX12_init_11 (by decide) ?_
  obtain ⟨q3, hf⟩ := ck_e hf
  obtain ⟨n4, tn4, in4⟩ := ix_e q3
  refine e_iast (pc := 12) C dX12_init_12 tn4 in4 ?_
  obtain ⟨h5, eh5, hf⟩ := nn_e hf
  refine e_hp eh5 ?_
  have uh5 : m_t h5 = m_t h2 := by rw [eh5]; exact rfl
  refine e_dup (pc := 13) C dX12_init_13 rfl ?_
  refine e_iconst (v := (1 : Int32)) (pc := 14) C dX12_init_14 (by decide) ?_
  refine e_iconst (v := (0 : Int32)) (pc := 15) C dX12_init_15 (by decide) ?_
  obtain ⟨q6, hf⟩ := ck_e hf
  obtain ⟨n7, tn7, in7⟩ := ix_e q6
  refine e_iast (pc := 16) C dX12_init_16 tn7 in7 ?_
  obtain ⟨h8, eh8, hf⟩ := nn_e hf
  refine e_hp eh8 ?_
  have uh8 : m_t h8 = m_t h2 := by rw [eh8]; exact uh5
  refine e_dup (pc := 17) C dX12_init_17 rfl ?_
  refine e_iconst (v := (2 : Int32)) (pc := 18) C dX12_init_18 (by decide) ?_
  refine e_iconst (v := (0 : Int32)) (pc := 19) C dX12_init_19 (by decide) ?_
  obtain ⟨q9, hf⟩ := ck_e hf
  obtain ⟨n10, tn10, in10⟩ := ix_e q9
  refine e_iast (pc := 20) C dX12_init_20 tn10 in10 ?_
  obtain ⟨h11, eh11, hf⟩ := nn_e hf
  refine e_hp eh11 ?_
  have uh11 : m_t h11 = m_t h2 := by rw [eh11]; exact uh8
  refine e_dup (pc := 21) C dX12_init_21 rfl ?_
  refine e_iconst (v := (3 : Int32)) (pc := 22) C dX12_init_22 (by decide) ?_
  refine e_iconst (v := (0 : Int32)) (pc := 23) C dX12_init_23 (by decide) ?_
  obtain ⟨q12, hf⟩ := ck_e hf
  obtain ⟨n13, tn13, in13⟩ := ix_e q12
  refine e_iast (pc := 24) C dX12_init_24 tn13 in13 ?_
  obtain ⟨h14, eh14, hf⟩ := nn_e hf
  refine e_hp eh14 ?_
  have uh14 : m_t h14 = m_t h2 := by rw [eh14]; exact uh11
  refine e_dup (pc := 25) C dX12_init_25 rfl ?_
  refine e_iconst (v := (4 : Int32)) (pc := 26) C dX12_init_26 (by decide) ?_
  refine e_iconst (v := (0 : Int32)) (pc := 27) C dX12_init_27 (by decide) ?_
  obtain ⟨q15, hf⟩ := ck_e hf
  obtain ⟨n16, tn16, in16⟩ := ix_e q15
  refine e_iast (pc := 28) C dX12_init_28 tn16 in16 ?_
  obtain ⟨h17, eh17, hf⟩ := nn_e hf
  refine e_hp eh17 ?_
  have uh17 : m_t h17 = m_t h2 := by rw [eh17]; exact uh14
  refine e_dup (pc := 29) C dX12_init_29 rfl ?_
  refine e_iconst (v := (5 : Int32)) (pc := 30) C dX12_init_30 (by decide) ?_
  refine e_iconst (v := (0 : Int32)) (pc := 31) C dX12_init_31 (by decide) ?_
  obtain ⟨q18, hf⟩ := ck_e hf
  obtain ⟨n19, tn19, in19⟩ := ix_e q18
  refine e_iast (pc := 32) C dX12_init_32 tn19 in19 ?_
  obtain ⟨h20, eh20, hf⟩ := nn_e hf
  refine e_hp eh20 ?_
  have uh20 : m_t h20 = m_t h2 := by rw [eh20]; exact uh17
  refine e_dup (pc := 33) C dX12_init_33 rfl ?_
  refine e_bipush (v := (6 : Int32)) (pc := 34) C dX12_init_34 (by decide) ?_
  refine e_iconst (v := (0 : Int32)) (pc := 36) C dX12_init_36 (by decide) ?_
  obtain ⟨q21, hf⟩ := ck_e hf
  obtain ⟨n22, tn22, in22⟩ := ix_e q21
  refine e_iast (pc := 37) C dX12_init_37 tn22 in22 ?_
  obtain ⟨h23, eh23, hf⟩ := nn_e hf
  refine e_hp eh23 ?_
  have uh23 : m_t h23 = m_t h2 := by rw [eh23]; exact uh20
  refine e_dup (pc := 38) C dX12_init_38 rfl ?_
  refine e_bipush (v := (7 : Int32)) (pc := 39) C dX12_init_39 (by decide) ?_
  refine e_iconst (v := (0 : Int32)) (pc := 41) C dX12_init_41 (by decide) ?_
  obtain ⟨q24, hf⟩ := ck_e hf
  obtain ⟨n25, tn25, in25⟩ := ix_e q24
  refine e_iast (pc := 42) C dX12_init_42 tn25 in25 ?_
  obtain ⟨h26, eh26, hf⟩ := nn_e hf
  refine e_hp eh26 ?_
  have uh26 : m_t h26 = m_t h2 := by rw [eh26]; exact uh23
  refine e_dup (pc := 43) C dX12_init_43 rfl ?_
  refine e_bipush (v := (8 : Int32)) (pc := 44) C dX12_init_44 (by decide) ?_
  refine e_iconst (v := (0 : Int32)) (pc := 46) C dX12_init_46 (by decide) ?_
  obtain ⟨q27, hf⟩ := ck_e hf
  obtain ⟨n28, tn28, in28⟩ := ix_e q27
  refine e_iast (pc := 47) C dX12_init_47 tn28 in28 ?_
  obtain ⟨h29, eh29, hf⟩ := nn_e hf
  refine e_hp eh29 ?_
  have uh29 : m_t h29 = m_t h2 := by rw [eh29]; exact uh26
  refine e_dup (pc := 48) C dX12_init_48 rfl ?_
  refine e_bipush (v := (9 : Int32)) (pc := 49) C dX12_init_49 (by decide) ?_
  refine e_iconst (v := (0 : Int32)) (pc := 51) C dX12_init_51 (by decide) ?_
  obtain ⟨q30, hf⟩ := ck_e hf
  obtain ⟨n31, tn31, in31⟩ := ix_e q30
  refine e_iast (pc := 52) C dX12_init_52 tn31 in31 ?_
  obtain ⟨h32, eh32, hf⟩ := nn_e hf
  refine e_hp eh32 ?_
  have uh32 : m_t h32 = m_t h2 := by rw [eh32]; exact uh29
  refine e_dup (pc := 53) C dX12_init_53 rfl ?_
  refine e_bipush (v := (10 : Int32)) (pc := 54) C dX12_init_54 (by decide) ?_
  refine e_iconst (v := (0 : Int32)) (pc := 56) C dX12_init_56 (by decide) ?_
  obtain ⟨q33, hf⟩ := ck_e hf
  obtain ⟨n34, tn34, in34⟩ := ix_e q33
  refine e_iast (pc := 57) C dX12_init_57 tn34 in34 ?_
  obtain ⟨h35, eh35, hf⟩ := nn_e hf
  refine e_hp eh35 ?_
  have uh35 : m_t h35 = m_t h2 := by rw [eh35]; exact uh32
  refine e_dup (pc := 58) C dX12_init_58 rfl ?_
  refine e_bipush (v := (11 : Int32)) (pc := 59) C dX12_init_59 (by decide) ?_
  refine e_iconst (v := (0 : Int32)) (pc := 61) C dX12_init_61 (by decide) ?_
  obtain ⟨q36, hf⟩ := ck_e hf
  obtain ⟨n37, tn37, in37⟩ := ix_e q36
  refine e_iast (pc := 62) C dX12_init_62 tn37 in37 ?_
  obtain ⟨h38, eh38, hf⟩ := nn_e hf
  refine e_hp eh38 ?_
  have uh38 : m_t h38 = m_t h2 := by rw [eh38]; exact uh35
  refine e_dup (pc := 63) C dX12_init_63 rfl ?_
  refine e_bipush (v := (12 : Int32)) (pc := 64) C dX12_init_64 (by decide) ?_
  refine e_iconst (v := (0 : Int32)) (pc := 66) C dX12_init_66 (by decide) ?_
  obtain ⟨q39, hf⟩ := ck_e hf
  obtain ⟨n40, tn40, in40⟩ := ix_e q39
  refine e_iast (pc := 67) C dX12_init_67 tn40 in40 ?_
  obtain ⟨h41, eh41, hf⟩ := nn_e hf
  refine e_hp eh41 ?_
  have uh41 : m_t h41 = m_t h2 := by rw [eh41]; exact uh38
  refine e_dup (pc := 68) C dX12_init_68 rfl ?_
  refine e_bipush (v := (13 : Int32)) (pc := 69) C dX12_init_69 (by decide) ?_
  refine e_iconst (v := (0 : Int32)) (pc := 71) C dX12_init_71 (by decide) ?_
  obtain ⟨q42, hf⟩ := ck_e hf
  obtain ⟨n43, tn43, in43⟩ := ix_e q42
  refine e_iast (pc := 72) C dX12_init_72 tn43 in43 ?_
  obtain ⟨h44, eh44, hf⟩ := nn_e hf
  refine e_hp eh44 ?_
  have uh44 : m_t h44 = m_t h2 := by rw [eh44]; exact uh41
  refine e_dup (pc := 73) C dX12_init_73 rfl ?_
  refine e_bipush (v := (14 : Int32)) (pc := 74) C dX12_init_74 (by decide) ?_
  refine e_iconst (v := (0 : Int32)) (pc := 76) C dX12_init_76 (by decide) ?_
  obtain ⟨q45, hf⟩ := ck_e hf
  obtain ⟨n46, tn46, in46⟩ := ix_e q45
  refine e_iast (pc := 77) C dX12_init_77 tn46 in46 ?_
  obtain ⟨h47, eh47, hf⟩ := nn_e hf
  refine e_hp eh47 ?_
  have uh47 : m_t h47 = m_t h2 := by rw [eh47]; exact uh44
  refine e_dup (pc := 78) C dX12_init_78 rfl ?_
  refine e_bipush (v := (15 : Int32)) (pc := 79) C dX12_init_79 (by decide) ?_
  refine e_iconst (v := (0 : Int32)) (pc := 81) C dX12_init_81 (by decide) ?_
  obtain ⟨q48, hf⟩ := ck_e hf
  obtain ⟨n49, tn49, in49⟩ := ix_e q48
  refine e_iast (pc := 82) C dX12_init_82 tn49 in49 ?_
  obtain ⟨h50, eh50, hf⟩ := nn_e hf
  refine e_hp eh50 ?_
  have uh50 : m_t h50 = m_t h2 := by rw [eh50]; exact uh47
  refine e_dup (pc := 83) C dX12_init_83 rfl ?_
  refine e_bipush (v := (16 : Int32)) (pc := 84) C dX12_init_84 (by decide) ?_
  refine e_iconst (v := (-1 : Int32)) (pc := 86) C dX12_init_86 (by decide) ?_
  obtain ⟨q51, hf⟩ := ck_e hf
  obtain ⟨n52, tn52, in52⟩ := ix_e q51
  refine e_iast (pc := 87) C dX12_init_87 tn52 in52 ?_
  obtain ⟨h53, eh53, hf⟩ := nn_e hf
  refine e_hp eh53 ?_
  have uh53 : m_t h53 = m_t h2 := by rw [eh53]; exact uh50
  obtain ⟨t54, hf⟩ := ck_e hf
  refine e_putrF (pc := 88) (x := some x1) 12 1 C hin dX12_init_88 (by decide) (by decide) g1402 rfl rfl rfl rfl rfl t54 ?_
  obtain ⟨h55, eh55, hf⟩ := nn_e hf
  refine e_hp eh55 ?_
  have uh55 : m_t h55 = m_t h2 := by rw [eh55]; exact uh53
  refine e_aload_n (pc := 91) C dX12_init_91 0 rfl rfl ?_
  refine e_bipush (v := (7 : Int32)) (pc := 92) C dX12_init_92 (by decide) ?_
  refine e_newi (pc := 94) C dX12_init_94 g220 (by decide) (N := 7) (by decide) (by decide) (Nat.le_of_ble_eq_true rfl) (Nat.le_of_ble_eq_true rfl) ?_
  obtain ⟨x56, ex56, hf⟩ := nn_e hf
  refine e_topr ex56 ?_
  obtain ⟨h57, eh57, hf⟩ := nn_e hf
  refine e_hp eh57 ?_
  obtain ⟨t58, hf⟩ := ck_e hf
  refine e_putrF (pc := 96) (x := some x56) 12 2 C hin dX12_init_96 (by decide) (by decide) g1403 rfl rfl rfl rfl rfl t58 ?_
  obtain ⟨h59, eh59, hf⟩ := nn_e hf
  refine e_hp eh59 ?_
  have uh59 : m_t h59 = m_t h57 := by rw [eh59]; exact rfl
  refine e_aload_n (pc := 99) C dX12_init_99 0 rfl rfl ?_
  refine e_bipush (v := (8 : Int32)) (pc := 100) C dX12_init_100 (by decide) ?_
  refine e_newi (pc := 102) C dX12_init_102 g220 (by decide) (N := 8) (by decide) (by decide) (Nat.le_of_ble_eq_true rfl) (Nat.le_of_ble_eq_true rfl) ?_
  obtain ⟨x60, ex60, hf⟩ := nn_e hf
  refine e_topr ex60 ?_
  obtain ⟨h61, eh61, hf⟩ := nn_e hf
  refine e_hp eh61 ?_
  obtain ⟨t62, hf⟩ := ck_e hf
  refine e_putrF (pc := 104) (x := some x60) 12 3 C hin dX12_init_104 (by decide) (by decide) g1404 rfl rfl rfl rfl rfl t62 ?_
  obtain ⟨h63, eh63, hf⟩ := nn_e hf
  refine e_hp eh63 ?_
  have uh63 : m_t h63 = m_t h61 := by rw [eh63]; exact rfl
  refine e_aload_n (pc := 107) C dX12_init_107 0 rfl rfl ?_
  refine e_bipush (v := (8 : Int32)) (pc := 108) C dX12_init_108 (by decide) ?_
  refine e_newi (pc := 110) C dX12_init_110 g220 (by decide) (N := 8) (by decide) (by decide) (Nat.le_of_ble_eq_true rfl) (Nat.le_of_ble_eq_true rfl) ?_
  obtain ⟨x64, ex64, hf⟩ := nn_e hf
  refine e_topr ex64 ?_
  obtain ⟨h65, eh65, hf⟩ := nn_e hf
  refine e_hp eh65 ?_
  obtain ⟨t66, hf⟩ := ck_e hf
  refine e_putrF (pc := 112) (x := some x64) 12 4 C hin dX12_init_112 (by decide) (by decide) g1405 rfl rfl rfl rfl rfl t66 ?_
  obtain ⟨h67, eh67, hf⟩ := nn_e hf
  refine e_hp eh67 ?_
  have uh67 : m_t h67 = m_t h65 := by rw [eh67]; exact rfl
  refine e_aload_n (pc := 115) C dX12_init_115 0 rfl rfl ?_
  refine e_bipush (v := (8 : Int32)) (pc := 116) C dX12_init_116 (by decide) ?_
  refine e_newi (pc := 118) C dX12_init_118 g220 (by decide) (N := 8) (by decide) (by decide) (Nat.le_of_ble_eq_true rfl) (Nat.le_of_ble_eq_true rfl) ?_
  obtain ⟨x68, ex68, hf⟩ := nn_e hf
  refine e_topr ex68 ?_
  obtain ⟨h69, eh69, hf⟩ := nn_e hf
  refine e_hp eh69 ?_
  obtain ⟨t70, hf⟩ := ck_e hf
  refine e_putrF (pc := 120) (x := some x68) 12 5 C hin dX12_init_120 (by decide) (by decide) g1406 rfl rfl rfl rfl rfl t70 ?_
  obtain ⟨h71, eh71, hf⟩ := nn_e hf
  refine e_hp eh71 ?_
  have uh71 : m_t h71 = m_t h69 := by rw [eh71]; exact rfl
  refine e_aload_n (pc := 123) C dX12_init_123 0 rfl rfl ?_
  refine e_bipush (v := (8 : Int32)) (pc := 124) C dX12_init_124 (by decide) ?_
  refine e_newi (pc := 126) C dX12_init_126 g220 (by decide) (N := 8) (by decide) (by decide) (Nat.le_of_ble_eq_true rfl) (Nat.le_of_ble_eq_true rfl) ?_
  obtain ⟨x72, ex72, hf⟩ := nn_e hf
  refine e_topr ex72 ?_
  obtain ⟨h73, eh73, hf⟩ := nn_e hf
  refine e_hp eh73 ?_
  obtain ⟨t74, hf⟩ := ck_e hf
  refine e_putrF (pc := 128) (x := some x72) 12 6 C hin dX12_init_128 (by decide) (by decide) g1407 rfl rfl rfl rfl rfl t74 ?_
  obtain ⟨h75, eh75, hf⟩ := nn_e hf
  refine e_hp eh75 ?_
  have uh75 : m_t h75 = m_t h73 := by rw [eh75]; exact rfl
  refine e_aload_n (pc := 131) C dX12_init_131 0 rfl rfl ?_
  refine e_bipush (v := (8 : Int32)) (pc := 132) C dX12_init_132 (by decide) ?_
  refine e_newi (pc := 134) C dX12_init_134 g220 (by decide) (N := 8) (by decide) (by decide) (Nat.le_of_ble_eq_true rfl) (Nat.le_of_ble_eq_true rfl) ?_
  obtain ⟨x76, ex76, hf⟩ := nn_e hf
  refine e_topr ex76 ?_
  obtain ⟨h77, eh77, hf⟩ := nn_e hf
  refine e_hp eh77 ?_
  obtain ⟨t78, hf⟩ := ck_e hf
  refine e_putrF (pc := 136) (x := some x76) 12 7 C hin dX12_init_136 (by decide) (by decide) g1408 rfl rfl rfl rfl rfl t78 ?_
  obtain ⟨h79, eh79, hf⟩ := nn_e hf
  refine e_hp eh79 ?_
  have uh79 : m_t h79 = m_t h77 := by rw [eh79]; exact rfl
  refine e_aload_n (pc := 139) C dX12_init_139 0 rfl rfl ?_
  refine e_bipush (v := (8 : Int32)) (pc := 140) C dX12_init_140 (by decide) ?_
  refine e_newi (pc := 142) C dX12_init_142 g220 (by decide) (N := 8) (by decide) (by decide) (Nat.le_of_ble_eq_true rfl) (Nat.le_of_ble_eq_true rfl) ?_
  obtain ⟨x80, ex80, hf⟩ := nn_e hf
  refine e_topr ex80 ?_
  obtain ⟨h81, eh81, hf⟩ := nn_e hf
  refine e_hp eh81 ?_
  obtain ⟨t82, hf⟩ := ck_e hf
  refine e_putrF (pc := 144) (x := some x80) 12 8 C hin dX12_init_144 (by decide) (by decide) g1409 rfl rfl rfl rfl rfl t82 ?_
  obtain ⟨h83, eh83, hf⟩ := nn_e hf
  refine e_hp eh83 ?_
  have uh83 : m_t h83 = m_t h81 := by rw [eh83]; exact rfl
  refine e_aload_n (pc := 147) C dX12_init_147 0 rfl rfl ?_
  refine e_bipush (v := (8 : Int32)) (pc := 148) C dX12_init_148 (by decide) ?_
  refine e_newi (pc := 150) C dX12_init_150 g220 (by decide) (N := 8) (by decide) (by decide) (Nat.le_of_ble_eq_true rfl) (Nat.le_of_ble_eq_true rfl) ?_
  obtain ⟨x84, ex84, hf⟩ := nn_e hf
  refine e_topr ex84 ?_
  obtain ⟨h85, eh85, hf⟩ := nn_e hf
  refine e_hp eh85 ?_
  obtain ⟨t86, hf⟩ := ck_e hf
  refine e_putrF (pc := 152) (x := some x84) 12 9 C hin dX12_init_152 (by decide) (by decide) g1410 rfl rfl rfl rfl rfl t86 ?_
  obtain ⟨h87, eh87, hf⟩ := nn_e hf
  refine e_hp eh87 ?_
  have uh87 : m_t h87 = m_t h85 := by rw [eh87]; exact rfl
  refine e_aload_n (pc := 155) C dX12_init_155 0 rfl rfl ?_
  refine e_bipush (v := (8 : Int32)) (pc := 156) C dX12_init_156 (by decide) ?_
  refine e_newi (pc := 158) C dX12_init_158 g220 (by decide) (N := 8) (by decide) (by decide) (Nat.le_of_ble_eq_true rfl) (Nat.le_of_ble_eq_true rfl) ?_
  obtain ⟨x88, ex88, hf⟩ := nn_e hf
  refine e_topr ex88 ?_
  obtain ⟨h89, eh89, hf⟩ := nn_e hf
  refine e_hp eh89 ?_
  obtain ⟨t90, hf⟩ := ck_e hf
  refine e_putrF (pc := 160) (x := some x88) 12 10 C hin dX12_init_160 (by decide) (by decide) g1411 rfl rfl rfl rfl rfl t90 ?_
  obtain ⟨h91, eh91, hf⟩ := nn_e hf
  refine e_hp eh91 ?_
  have uh91 : m_t h91 = m_t h89 := by rw [eh91]; exact rfl
  refine e_aload_n (pc := 163) C dX12_init_163 0 rfl rfl ?_
  refine e_bipush (v := (8 : Int32)) (pc := 164) C dX12_init_164 (by decide) ?_
  refine e_newi (pc := 166) C dX12_init_166 g220 (by decide) (N := 8) (by decide) (by decide) (Nat.le_of_ble_eq_true rfl) (Nat.le_of_ble_eq_true rfl) ?_
  obtain ⟨x92, ex92, hf⟩ := nn_e hf
  refine e_topr ex92 ?_
  obtain ⟨h93, eh93, hf⟩ := nn_e hf
  refine e_hp eh93 ?_
  obtain ⟨t94, hf⟩ := ck_e hf
  refine e_putrF (pc := 168) (x := some x92) 12 11 C hin dX12_init_168 (by decide) (by decide) g1412 rfl rfl rfl rfl rfl t94 ?_
  obtain ⟨h95, eh95, hf⟩ := nn_e hf
  refine e_hp eh95 ?_
  have uh95 : m_t h95 = m_t h93 := by rw [eh95]; exact rfl
  refine e_aload_n (pc := 171) C dX12_init_171 0 rfl rfl ?_
  refine e_bipush (v := (8 : Int32)) (pc := 172) C dX12_init_172 (by decide) ?_
  refine e_newi (pc := 174) C dX12_init_174 g220 (by decide) (N := 8) (by decide) (by decide) (Nat.le_of_ble_eq_true rfl) (Nat.le_of_ble_eq_true rfl) ?_
  obtain ⟨x96, ex96, hf⟩ := nn_e hf
  refine e_topr ex96 ?_
  obtain ⟨h97, eh97, hf⟩ := nn_e hf
  refine e_hp eh97 ?_
  obtain ⟨t98, hf⟩ := ck_e hf
  refine e_putrF (pc := 176) (x := some x96) 12 12 C hin dX12_init_176 (by decide) (by decide) g1413 rfl rfl rfl rfl rfl t98 ?_
  obtain ⟨h99, eh99, hf⟩ := nn_e hf
  refine e_hp eh99 ?_
  have uh99 : m_t h99 = m_t h97 := by rw [eh99]; exact rfl
  refine e_aload_n (pc := 179) C dX12_init_179 0 rfl rfl ?_
  refine e_iconst (v := (5 : Int32)) (pc := 180) C dX12_init_180 (by decide) ?_
  refine e_newi (pc := 181) C dX12_init_181 g220 (by decide) (N := 5) (by decide) (by decide) (Nat.le_of_ble_eq_true rfl) (Nat.le_of_ble_eq_true rfl) ?_
  obtain ⟨x100, ex100, hf⟩ := nn_e hf
  refine e_topr ex100 ?_
  obtain ⟨h101, eh101, hf⟩ := nn_e hf
  refine e_hp eh101 ?_
  obtain ⟨t102, hf⟩ := ck_e hf
  refine e_putrF (pc := 183) (x := some x100) 12 13 C hin dX12_init_183 (by decide) (by decide) g1414 rfl rfl rfl rfl rfl t102 ?_
  obtain ⟨h103, eh103, hf⟩ := nn_e hf
  refine e_hp eh103 ?_
  have uh103 : m_t h103 = m_t h101 := by rw [eh103]; exact rfl
  refine e_aload_n (pc := 186) C dX12_init_186 0 rfl rfl ?_
  refine e_iconst (v := (5 : Int32)) (pc := 187) C dX12_init_187 (by decide) ?_
  refine e_newi (pc := 188) C dX12_init_188 g220 (by decide) (N := 5) (by decide) (by decide) (Nat.le_of_ble_eq_true rfl) (Nat.le_of_ble_eq_true rfl) ?_
  obtain ⟨x104, ex104, hf⟩ := nn_e hf
  refine e_topr ex104 ?_
  obtain ⟨h105, eh105, hf⟩ := nn_e hf
  refine e_hp eh105 ?_
  obtain ⟨t106, hf⟩ := ck_e hf
  refine e_putrF (pc := 190) (x := some x104) 12 14 C hin dX12_init_190 (by decide) (by decide) g1415 rfl rfl rfl rfl rfl t106 ?_
  obtain ⟨h107, eh107, hf⟩ := nn_e hf
  refine e_hp eh107 ?_
  have uh107 : m_t h107 = m_t h105 := by rw [eh107]; exact rfl
  refine e_aload_n (pc := 193) C dX12_init_193 0 rfl rfl ?_
  refine e_iconst (v := (5 : Int32)) (pc := 194) C dX12_init_194 (by decide) ?_
  refine e_newi (pc := 195) C dX12_init_195 g220 (by decide) (N := 5) (by decide) (by decide) (Nat.le_of_ble_eq_true rfl) (Nat.le_of_ble_eq_true rfl) ?_
  obtain ⟨x108, ex108, hf⟩ := nn_e hf
  refine e_topr ex108 ?_
  obtain ⟨h109, eh109, hf⟩ := nn_e hf
  refine e_hp eh109 ?_
  obtain ⟨t110, hf⟩ := ck_e hf
  refine e_putrF (pc := 197) (x := some x108) 12 15 C hin dX12_init_197 (by decide) (by decide) g1416 rfl rfl rfl rfl rfl t110 ?_
  obtain ⟨h111, eh111, hf⟩ := nn_e hf
  refine e_hp eh111 ?_
  have uh111 : m_t h111 = m_t h109 := by rw [eh111]; exact rfl
  refine e_aload_n (pc := 200) C dX12_init_200 0 rfl rfl ?_
  refine e_iconst (v := (5 : Int32)) (pc := 201) C dX12_init_201 (by decide) ?_
  refine e_newi (pc := 202) C dX12_init_202 g220 (by decide) (N := 5) (by decide) (by decide) (Nat.le_of_ble_eq_true rfl) (Nat.le_of_ble_eq_true rfl) ?_
  obtain ⟨x112, ex112, hf⟩ := nn_e hf
  refine e_topr ex112 ?_
  obtain ⟨h113, eh113, hf⟩ := nn_e hf
  refine e_hp eh113 ?_
  obtain ⟨t114, hf⟩ := ck_e hf
  refine e_putrF (pc := 204) (x := some x112) 12 16 C hin dX12_init_204 (by decide) (by decide) g1417 rfl rfl rfl rfl rfl t114 ?_
  obtain ⟨h115, eh115, hf⟩ := nn_e hf
  refine e_hp eh115 ?_
  have uh115 : m_t h115 = m_t h113 := by rw [eh115]; exact rfl
  refine e_aload_n (pc := 207) C dX12_init_207 0 rfl rfl ?_
  refine e_iconst (v := (5 : Int32)) (pc := 208) C dX12_init_208 (by decide) ?_
  refine e_newi (pc := 209) C dX12_init_209 g220 (by decide) (N := 5) (by decide) (by decide) (Nat.le_of_ble_eq_true rfl) (Nat.le_of_ble_eq_true rfl) ?_
  obtain ⟨x116, ex116, hf⟩ := nn_e hf
  refine e_topr ex116 ?_
  obtain ⟨h117, eh117, hf⟩ := nn_e hf
  refine e_hp eh117 ?_
  obtain ⟨t118, hf⟩ := ck_e hf
  refine e_putrF (pc := 211) (x := some x116) 12 17 C hin dX12_init_211 (by decide) (by decide) g1418 rfl rfl rfl rfl rfl t118 ?_
  obtain ⟨h119, eh119, hf⟩ := nn_e hf
  refine e_hp eh119 ?_
  have uh119 : m_t h119 = m_t h117 := by rw [eh119]; exact rfl
  refine e_aload_n (pc := 214) C dX12_init_214 0 rfl rfl ?_
  refine e_bipush (v := (10 : Int32)) (pc := 215) C dX12_init_215 (by decide) ?_
  refine e_newi (pc := 217) C dX12_init_217 g220 (by decide) (N := 10) (by decide) (by decide) (Nat.le_of_ble_eq_true rfl) (Nat.le_of_ble_eq_true rfl) ?_
  obtain ⟨x120, ex120, hf⟩ := nn_e hf
  refine e_topr ex120 ?_
  obtain ⟨h121, eh121, hf⟩ := nn_e hf
  refine e_hp eh121 ?_
  obtain ⟨t122, hf⟩ := ck_e hf
  refine e_putrF (pc := 219) (x := some x120) 12 18 C hin dX12_init_219 (by decide) (by decide) g1419 rfl rfl rfl rfl rfl t122 ?_
  obtain ⟨h123, eh123, hf⟩ := nn_e hf
  refine e_hp eh123 ?_
  have uh123 : m_t h123 = m_t h121 := by rw [eh123]; exact rfl
  refine e_aload_n (pc := 222) C dX12_init_222 0 rfl rfl ?_
  refine e_bipush (v := (10 : Int32)) (pc := 223) C dX12_init_223 (by decide) ?_
  refine e_newi (pc := 225) C dX12_init_225 g220 (by decide) (N := 10) (by decide) (by decide) (Nat.le_of_ble_eq_true rfl) (Nat.le_of_ble_eq_true rfl) ?_
  obtain ⟨x124, ex124, hf⟩ := nn_e hf
  refine e_topr ex124 ?_
  obtain ⟨h125, eh125, hf⟩ := nn_e hf
  refine e_hp eh125 ?_
  obtain ⟨t126, hf⟩ := ck_e hf
  refine e_putrF (pc := 227) (x := some x124) 12 19 C hin dX12_init_227 (by decide) (by decide) g1420 rfl rfl rfl rfl rfl t126 ?_
  obtain ⟨h127, eh127, hf⟩ := nn_e hf
  refine e_hp eh127 ?_
  have uh127 : m_t h127 = m_t h125 := by rw [eh127]; exact rfl
  refine e_aload_n (pc := 230) C dX12_init_230 0 rfl rfl ?_
  refine e_bipush (v := (10 : Int32)) (pc := 231) C dX12_init_231 (by decide) ?_
  refine e_newi (pc := 233) C dX12_init_233 g220 (by decide) (N := 10) (by decide) (by decide) (Nat.le_of_ble_eq_true rfl) (Nat.le_of_ble_eq_true rfl) ?_
  obtain ⟨x128, ex128, hf⟩ := nn_e hf
  refine e_topr ex128 ?_
  obtain ⟨h129, eh129, hf⟩ := nn_e hf
  refine e_hp eh129 ?_
  obtain ⟨t130, hf⟩ := ck_e hf
  refine e_putrF (pc := 235) (x := some x128) 12 20 C hin dX12_init_235 (by decide) (by decide) g1421 rfl rfl rfl rfl rfl t130 ?_
  obtain ⟨h131, eh131, hf⟩ := nn_e hf
  refine e_hp eh131 ?_
  have uh131 : m_t h131 = m_t h129 := by rw [eh131]; exact rfl
  refine e_aload_n (pc := 238) C dX12_init_238 0 rfl rfl ?_
  refine e_bipush (v := (8 : Int32)) (pc := 239) C dX12_init_239 (by decide) ?_
  refine e_newi (pc := 241) C dX12_init_241 g220 (by decide) (N := 8) (by decide) (by decide) (Nat.le_of_ble_eq_true rfl) (Nat.le_of_ble_eq_true rfl) ?_
  obtain ⟨x132, ex132, hf⟩ := nn_e hf
  refine e_topr ex132 ?_
  obtain ⟨h133, eh133, hf⟩ := nn_e hf
  refine e_hp eh133 ?_
  obtain ⟨t134, hf⟩ := ck_e hf
  refine e_putrF (pc := 243) (x := some x132) 12 21 C hin dX12_init_243 (by decide) (by decide) g1422 rfl rfl rfl rfl rfl t134 ?_
  obtain ⟨h135, eh135, hf⟩ := nn_e hf
  refine e_hp eh135 ?_
  have uh135 : m_t h135 = m_t h133 := by rw [eh135]; exact rfl
  refine e_aload_n (pc := 246) C dX12_init_246 0 rfl rfl ?_
  refine e_bipush (v := (8 : Int32)) (pc := 247) C dX12_init_247 (by decide) ?_
  refine e_newi (pc := 249) C dX12_init_249 g220 (by decide) (N := 8) (by decide) (by decide) (Nat.le_of_ble_eq_true rfl) (Nat.le_of_ble_eq_true rfl) ?_
  obtain ⟨x136, ex136, hf⟩ := nn_e hf
  refine e_topr ex136 ?_
  obtain ⟨h137, eh137, hf⟩ := nn_e hf
  refine e_hp eh137 ?_
  obtain ⟨t138, hf⟩ := ck_e hf
  refine e_putrF (pc := 251) (x := some x136) 12 22 C hin dX12_init_251 (by decide) (by decide) g1423 rfl rfl rfl rfl rfl t138 ?_
  obtain ⟨h139, eh139, hf⟩ := nn_e hf
  refine e_hp eh139 ?_
  have uh139 : m_t h139 = m_t h137 := by rw [eh139]; exact rfl
  refine e_aload_n (pc := 254) C dX12_init_254 0 rfl rfl ?_
  refine e_bipush (v := (8 : Int32)) (pc := 255) C dX12_init_255 (by decide) ?_
  refine e_newi (pc := 257) C dX12_init_257 g220 (by decide) (N := 8) (by decide) (by decide) (Nat.le_of_ble_eq_true rfl) (Nat.le_of_ble_eq_true rfl) ?_
  obtain ⟨x140, ex140, hf⟩ := nn_e hf
  refine e_topr ex140 ?_
  obtain ⟨h141, eh141, hf⟩ := nn_e hf
  refine e_hp eh141 ?_
  obtain ⟨t142, hf⟩ := ck_e hf
  refine e_putrF (pc := 259) (x := some x140) 12 23 C hin dX12_init_259 (by decide) (by decide) g1424 rfl rfl rfl rfl rfl t142 ?_
  obtain ⟨h143, eh143, hf⟩ := nn_e hf
  refine e_hp eh143 ?_
  have uh143 : m_t h143 = m_t h141 := by rw [eh143]; exact rfl
  refine e_aload_n (pc := 262) C dX12_init_262 0 rfl rfl ?_
  refine e_bipush (v := (8 : Int32)) (pc := 263) C dX12_init_263 (by decide) ?_
  refine e_newi (pc := 265) C dX12_init_265 g220 (by decide) (N := 8) (by decide) (by decide) (Nat.le_of_ble_eq_true rfl) (Nat.le_of_ble_eq_true rfl) ?_
  obtain ⟨x144, ex144, hf⟩ := nn_e hf
  refine e_topr ex144 ?_
  obtain ⟨h145, eh145, hf⟩ := nn_e hf
  refine e_hp eh145 ?_
  obtain ⟨t146, hf⟩ := ck_e hf
  refine e_putrF (pc := 267) (x := some x144) 12 24 C hin dX12_init_267 (by decide) (by decide) g1425 rfl rfl rfl rfl rfl t146 ?_
  obtain ⟨h147, eh147, hf⟩ := nn_e hf
  refine e_hp eh147 ?_
  have uh147 : m_t h147 = m_t h145 := by rw [eh147]; exact rfl
  refine e_aload_n (pc := 270) C dX12_init_270 0 rfl rfl ?_
  refine e_bipush (v := (8 : Int32)) (pc := 271) C dX12_init_271 (by decide) ?_
  refine e_newi (pc := 273) C dX12_init_273 g220 (by decide) (N := 8) (by decide) (by decide) (Nat.le_of_ble_eq_true rfl) (Nat.le_of_ble_eq_true rfl) ?_
  obtain ⟨x148, ex148, hf⟩ := nn_e hf
  refine e_topr ex148 ?_
  obtain ⟨h149, eh149, hf⟩ := nn_e hf
  refine e_hp eh149 ?_
  obtain ⟨t150, hf⟩ := ck_e hf
  refine e_putrF (pc := 275) (x := some x148) 12 25 C hin dX12_init_275 (by decide) (by decide) g1426 rfl rfl rfl rfl rfl t150 ?_
  obtain ⟨h151, eh151, hf⟩ := nn_e hf
  refine e_hp eh151 ?_
  have uh151 : m_t h151 = m_t h149 := by rw [eh151]; exact rfl
  refine e_aload_n (pc := 278) C dX12_init_278 0 rfl rfl ?_
  refine e_bipush (v := (8 : Int32)) (pc := 279) C dX12_init_279 (by decide) ?_
  refine e_newi (pc := 281) C dX12_init_281 g220 (by decide) (N := 8) (by decide) (by decide) (Nat.le_of_ble_eq_true rfl) (Nat.le_of_ble_eq_true rfl) ?_
  obtain ⟨x152, ex152, hf⟩ := nn_e hf
  refine e_topr ex152 ?_
  obtain ⟨h153, eh153, hf⟩ := nn_e hf
  refine e_hp eh153 ?_
  obtain ⟨t154, hf⟩ := ck_e hf
  refine e_putrF (pc := 283) (x := some x152) 12 26 C hin dX12_init_283 (by decide) (by decide) g1427 rfl rfl rfl rfl rfl t154 ?_
  obtain ⟨h155, eh155, hf⟩ := nn_e hf
  refine e_hp eh155 ?_
  have uh155 : m_t h155 = m_t h153 := by rw [eh155]; exact rfl
  refine e_aload_n (pc := 286) C dX12_init_286 0 rfl rfl ?_
  refine e_iconst (v := (5 : Int32)) (pc := 287) C dX12_init_287 (by decide) ?_
  refine e_newi (pc := 288) C dX12_init_288 g220 (by decide) (N := 5) (by decide) (by decide) (Nat.le_of_ble_eq_true rfl) (Nat.le_of_ble_eq_true rfl) ?_
  obtain ⟨x156, ex156, hf⟩ := nn_e hf
  refine e_topr ex156 ?_
  obtain ⟨h157, eh157, hf⟩ := nn_e hf
  refine e_hp eh157 ?_
  obtain ⟨t158, hf⟩ := ck_e hf
  refine e_putrF (pc := 290) (x := some x156) 12 27 C hin dX12_init_290 (by decide) (by decide) g1428 rfl rfl rfl rfl rfl t158 ?_
  obtain ⟨h159, eh159, hf⟩ := nn_e hf
  refine e_hp eh159 ?_
  have uh159 : m_t h159 = m_t h157 := by rw [eh159]; exact rfl
  refine e_aload_n (pc := 293) C dX12_init_293 0 rfl rfl ?_
  refine e_iconst (v := (5 : Int32)) (pc := 294) C dX12_init_294 (by decide) ?_
  refine e_newi (pc := 295) C dX12_init_295 g220 (by decide) (N := 5) (by decide) (by decide) (Nat.le_of_ble_eq_true rfl) (Nat.le_of_ble_eq_true rfl) ?_
  obtain ⟨x160, ex160, hf⟩ := nn_e hf
  refine e_topr ex160 ?_
  obtain ⟨h161, eh161, hf⟩ := nn_e hf
  refine e_hp eh161 ?_
  obtain ⟨t162, hf⟩ := ck_e hf
  refine e_putrF (pc := 297) (x := some x160) 12 28 C hin dX12_init_297 (by decide) (by decide) g1429 rfl rfl rfl rfl rfl t162 ?_
  obtain ⟨h163, eh163, hf⟩ := nn_e hf
  refine e_hp eh163 ?_
  have uh163 : m_t h163 = m_t h161 := by rw [eh163]; exact rfl
  refine e_aload_n (pc := 300) C dX12_init_300 0 rfl rfl ?_
  refine e_iconst (v := (5 : Int32)) (pc := 301) C dX12_init_301 (by decide) ?_
  refine e_newi (pc := 302) C dX12_init_302 g220 (by decide) (N := 5) (by decide) (by decide) (Nat.le_of_ble_eq_true rfl) (Nat.le_of_ble_eq_true rfl) ?_
  obtain ⟨x164, ex164, hf⟩ := nn_e hf
  refine e_topr ex164 ?_
  obtain ⟨h165, eh165, hf⟩ := nn_e hf
  refine e_hp eh165 ?_
  obtain ⟨t166, hf⟩ := ck_e hf
  refine e_putrF (pc := 304) (x := some x164) 12 29 C hin dX12_init_304 (by decide) (by decide) g1430 rfl rfl rfl rfl rfl t166 ?_
  obtain ⟨h167, eh167, hf⟩ := nn_e hf
  refine e_hp eh167 ?_
  have uh167 : m_t h167 = m_t h165 := by rw [eh167]; exact rfl
  refine e_aload_n (pc := 307) C dX12_init_307 0 rfl rfl ?_
  refine e_iconst (v := (5 : Int32)) (pc := 308) C dX12_init_308 (by decide) ?_
  refine e_newi (pc := 309) C dX12_init_309 g220 (by decide) (N := 5) (by decide) (by decide) (Nat.le_of_ble_eq_true rfl) (Nat.le_of_ble_eq_true rfl) ?_
  obtain ⟨x168, ex168, hf⟩ := nn_e hf
  refine e_topr ex168 ?_
  obtain ⟨h169, eh169, hf⟩ := nn_e hf
  refine e_hp eh169 ?_
  obtain ⟨t170, hf⟩ := ck_e hf
  refine e_putrF (pc := 311) (x := some x168) 12 30 C hin dX12_init_311 (by decide) (by decide) g1431 rfl rfl rfl rfl rfl t170 ?_
  obtain ⟨h171, eh171, hf⟩ := nn_e hf
  refine e_hp eh171 ?_
  have uh171 : m_t h171 = m_t h169 := by rw [eh171]; exact rfl
  refine e_aload_n (pc := 314) C dX12_init_314 0 rfl rfl ?_
  refine e_iconst (v := (5 : Int32)) (pc := 315) C dX12_init_315 (by decide) ?_
  refine e_newi (pc := 316) C dX12_init_316 g220 (by decide) (N := 5) (by decide) (by decide) (Nat.le_of_ble_eq_true rfl) (Nat.le_of_ble_eq_true rfl) ?_
  obtain ⟨x172, ex172, hf⟩ := nn_e hf
  refine e_topr ex172 ?_
  obtain ⟨h173, eh173, hf⟩ := nn_e hf
  refine e_hp eh173 ?_
  obtain ⟨t174, hf⟩ := ck_e hf
  refine e_putrF (pc := 318) (x := some x172) 12 31 C hin dX12_init_318 (by decide) (by decide) g1432 rfl rfl rfl rfl rfl t174 ?_
  obtain ⟨h175, eh175, hf⟩ := nn_e hf
  refine e_hp eh175 ?_
  have uh175 : m_t h175 = m_t h173 := by rw [eh175]; exact rfl
  refine e_aload_n (pc := 321) C dX12_init_321 0 rfl rfl ?_
  refine e_bipush (v := (13 : Int32)) (pc := 322) C dX12_init_322 (by decide) ?_
  refine e_puti (pc := 324) 12 41 C dX12_init_324 (by decide) (by decide) g1442 rfl rfl rfl rfl (e_mt uh175 t174) ?_
  obtain ⟨h176, eh176, hf⟩ := nn_e hf
  refine e_hp eh176 ?_
  have uh176 : m_t h176 = m_t h173 := by rw [eh176]; exact uh175
  refine e_aload_n (pc := 327) C dX12_init_327 0 rfl rfl ?_
  refine e_sipush (v := (400 : Int32)) (pc := 328) C dX12_init_328 (by decide) ?_
  refine e_newb (pc := 331) C dX12_init_331 g219 (by decide) (N := 400) (by decide) (by decide) (Nat.le_of_ble_eq_true rfl) (Nat.le_of_ble_eq_true rfl) ?_
  obtain ⟨x177, ex177, hf⟩ := nn_e hf
  refine e_topr ex177 ?_
  obtain ⟨h178, eh178, hf⟩ := nn_e hf
  refine e_hp eh178 ?_
  obtain ⟨t179, hf⟩ := ck_e hf
  refine e_putrF (pc := 333) (x := some x177) 12 42 C hin dX12_init_333 (by decide) (by decide) g1443 rfl rfl rfl rfl rfl t179 ?_
  obtain ⟨h180, eh180, hf⟩ := nn_e hf
  refine e_hp eh180 ?_
  have uh180 : m_t h180 = m_t h178 := by rw [eh180]; exact rfl
  refine e_aload_n (pc := 336) C dX12_init_336 0 rfl rfl ?_
  refine e_sipush (v := (1800 : Int32)) (pc := 337) C dX12_init_337 (by decide) ?_
  refine e_newi (pc := 340) C dX12_init_340 g220 (by decide) (N := 1800) (by decide) (by decide) (Nat.le_of_ble_eq_true rfl) (Nat.le_of_ble_eq_true rfl) ?_
  obtain ⟨x181, ex181, hf⟩ := nn_e hf
  refine e_topr ex181 ?_
  obtain ⟨h182, eh182, hf⟩ := nn_e hf
  refine e_hp eh182 ?_
  obtain ⟨t183, hf⟩ := ck_e hf
  refine e_putrF (pc := 342) (x := some x181) 12 43 C hin dX12_init_342 (by decide) (by decide) g1444 rfl rfl rfl rfl rfl t183 ?_
  obtain ⟨h184, eh184, hf⟩ := nn_e hf
  refine e_hp eh184 ?_
  have uh184 : m_t h184 = m_t h182 := by rw [eh184]; exact rfl
  refine e_aload_n (pc := 345) C dX12_init_345 0 rfl rfl ?_
  refine e_sipush (v := (1800 : Int32)) (pc := 346) C dX12_init_346 (by decide) ?_
  refine e_newi (pc := 349) C dX12_init_349 g220 (by decide) (N := 1800) (by decide) (by decide) (Nat.le_of_ble_eq_true rfl) (Nat.le_of_ble_eq_true rfl) ?_
  obtain ⟨x185, ex185, hf⟩ := nn_e hf
  refine e_topr ex185 ?_
  obtain ⟨h186, eh186, hf⟩ := nn_e hf
  refine e_hp eh186 ?_
  obtain ⟨t187, hf⟩ := ck_e hf
  refine e_putrF (pc := 351) (x := some x185) 12 44 C hin dX12_init_351 (by decide) (by decide) g1445 rfl rfl rfl rfl rfl t187 ?_
  obtain ⟨h188, eh188, hf⟩ := nn_e hf
  refine e_hp eh188 ?_
  have uh188 : m_t h188 = m_t h186 := by rw [eh188]; exact rfl
  refine e_aload_n (pc := 354) C dX12_init_354 0 rfl rfl ?_
  refine e_bipush (v := (6 : Int32)) (pc := 355) C dX12_init_355 (by decide) ?_
  refine e_newi (pc := 357) C dX12_init_357 g220 (by decide) (N := 6) (by decide) (by decide) (Nat.le_of_ble_eq_true rfl) (Nat.le_of_ble_eq_true rfl) ?_
  obtain ⟨x189, ex189, hf⟩ := nn_e hf
  refine e_topr ex189 ?_
  obtain ⟨h190, eh190, hf⟩ := nn_e hf
  refine e_hp eh190 ?_
  obtain ⟨t191, hf⟩ := ck_e hf
  refine e_putrF (pc := 359) (x := some x189) 12 45 C hin dX12_init_359 (by decide) (by decide) g1446 rfl rfl rfl rfl rfl t191 ?_
  obtain ⟨h192, eh192, hf⟩ := nn_e hf
  refine e_hp eh192 ?_
  have uh192 : m_t h192 = m_t h190 := by rw [eh192]; exact rfl
  refine e_aload_n (pc := 362) C dX12_init_362 0 rfl rfl ?_
  refine e_bipush (v := (72 : Int32)) (pc := 363) C dX12_init_363 (by decide) ?_
  refine e_newi (pc := 365) C dX12_init_365 g220 (by decide) (N := 72) (by decide) (by decide) (Nat.le_of_ble_eq_true rfl) (Nat.le_of_ble_eq_true rfl) ?_
  obtain ⟨x193, ex193, hf⟩ := nn_e hf
  refine e_topr ex193 ?_
  obtain ⟨h194, eh194, hf⟩ := nn_e hf
  refine e_hp eh194 ?_
  obtain ⟨t195, hf⟩ := ck_e hf
  refine e_putrF (pc := 367) (x := some x193) 12 46 C hin dX12_init_367 (by decide) (by decide) g1447 rfl rfl rfl rfl rfl t195 ?_
  obtain ⟨h196, eh196, hf⟩ := nn_e hf
  refine e_hp eh196 ?_
  have uh196 : m_t h196 = m_t h194 := by rw [eh196]; exact rfl
  refine e_aload_n (pc := 370) C dX12_init_370 0 rfl rfl ?_
  refine e_bipush (v := (72 : Int32)) (pc := 371) C dX12_init_371 (by decide) ?_
  refine e_newi (pc := 373) C dX12_init_373 g220 (by decide) (N := 72) (by decide) (by decide) (Nat.le_of_ble_eq_true rfl) (Nat.le_of_ble_eq_true rfl) ?_
  obtain ⟨x197, ex197, hf⟩ := nn_e hf
  refine e_topr ex197 ?_
  obtain ⟨h198, eh198, hf⟩ := nn_e hf
  refine e_hp eh198 ?_
  obtain ⟨t199, hf⟩ := ck_e hf
  refine e_putrF (pc := 375) (x := some x197) 12 47 C hin dX12_init_375 (by decide) (by decide) g1448 rfl rfl rfl rfl rfl t199 ?_
  obtain ⟨h200, eh200, hf⟩ := nn_e hf
  refine e_hp eh200 ?_
  have uh200 : m_t h200 = m_t h198 := by rw [eh200]; exact rfl
  refine e_aload_n (pc := 378) C dX12_init_378 0 rfl rfl ?_
  refine e_bipush (v := (72 : Int32)) (pc := 379) C dX12_init_379 (by decide) ?_
  refine e_newi (pc := 381) C dX12_init_381 g220 (by decide) (N := 72) (by decide) (by decide) (Nat.le_of_ble_eq_true rfl) (Nat.le_of_ble_eq_true rfl) ?_
  obtain ⟨x201, ex201, hf⟩ := nn_e hf
  refine e_topr ex201 ?_
  obtain ⟨h202, eh202, hf⟩ := nn_e hf
  refine e_hp eh202 ?_
  obtain ⟨t203, hf⟩ := ck_e hf
  refine e_putrF (pc := 383) (x := some x201) 12 48 C hin dX12_init_383 (by decide) (by decide) g1449 rfl rfl rfl rfl rfl t203 ?_
  obtain ⟨h204, eh204, hf⟩ := nn_e hf
  refine e_hp eh204 ?_
  have uh204 : m_t h204 = m_t h202 := by rw [eh204]; exact rfl
  refine e_aload_n (pc := 386) C dX12_init_386 0 rfl rfl ?_
  refine e_sipush (v := (402 : Int32)) (pc := 387) C dX12_init_387 (by decide) ?_
  refine e_newi (pc := 390) C dX12_init_390 g220 (by decide) (N := 402) (by decide) (by decide) (Nat.le_of_ble_eq_true rfl) (Nat.le_of_ble_eq_true rfl) ?_
  obtain ⟨x205, ex205, hf⟩ := nn_e hf
  refine e_topr ex205 ?_
  obtain ⟨h206, eh206, hf⟩ := nn_e hf
  refine e_hp eh206 ?_
  obtain ⟨t207, hf⟩ := ck_e hf
  refine e_putrF (pc := 392) (x := some x205) 12 49 C hin dX12_init_392 (by decide) (by decide) g1450 rfl rfl rfl rfl rfl t207 ?_
  obtain ⟨h208, eh208, hf⟩ := nn_e hf
  refine e_hp eh208 ?_
  have uh208 : m_t h208 = m_t h206 := by rw [eh208]; exact rfl
  refine e_aload_n (pc := 395) C dX12_init_395 0 rfl rfl ?_
  refine e_bipush (v := (13 : Int32)) (pc := 396) C dX12_init_396 (by decide) ?_
  refine e_newl (pc := 398) C dX12_init_398 g894 (by decide) (N := 13) (by decide) (by decide) (Nat.le_of_ble_eq_true rfl) (Nat.le_of_ble_eq_true rfl) ?_
  obtain ⟨x209, ex209, hf⟩ := nn_e hf
  refine e_topr ex209 ?_
  obtain ⟨h210, eh210, hf⟩ := nn_e hf
  refine e_hp eh210 ?_
  obtain ⟨t211, hf⟩ := ck_e hf
  refine e_putrF (pc := 400) (x := some x209) 12 50 C hin dX12_init_400 (by decide) (by decide) g1451 rfl rfl rfl rfl rfl t211 ?_
  obtain ⟨h212, eh212, hf⟩ := nn_e hf
  refine e_hp eh212 ?_
  have uh212 : m_t h212 = m_t h210 := by rw [eh212]; exact rfl
  refine e_aload_n (pc := 403) C dX12_init_403 0 rfl rfl ?_
  refine e_sipush (v := (300 : Int32)) (pc := 404) C dX12_init_404 (by decide) ?_
  refine e_newl (pc := 407) C dX12_init_407 g894 (by decide) (N := 300) (by decide) (by decide) (Nat.le_of_ble_eq_true rfl) (Nat.le_of_ble_eq_true rfl) ?_
  obtain ⟨x213, ex213, hf⟩ := nn_e hf
  refine e_topr ex213 ?_
  obtain ⟨h214, eh214, hf⟩ := nn_e hf
  refine e_hp eh214 ?_
  obtain ⟨t215, hf⟩ := ck_e hf
  refine e_putrF (pc := 409) (x := some x213) 12 51 C hin dX12_init_409 (by decide) (by decide) g1452 rfl rfl rfl rfl rfl t215 ?_
  obtain ⟨h216, eh216, hf⟩ := nn_e hf
  refine e_hp eh216 ?_
  have uh216 : m_t h216 = m_t h214 := by rw [eh216]; exact rfl
  refine e_aload_n (pc := 412) C dX12_init_412 0 rfl rfl ?_
  refine e_bipush (v := (6 : Int32)) (pc := 413) C dX12_init_413 (by decide) ?_
  refine e_newi (pc := 415) C dX12_init_415 g220 (by decide) (N := 6) (by decide) (by decide) (Nat.le_of_ble_eq_true rfl) (Nat.le_of_ble_eq_true rfl) ?_
  obtain ⟨x217, ex217, hf⟩ := nn_e hf
  refine e_topr ex217 ?_
  obtain ⟨h218, eh218, hf⟩ := nn_e hf
  refine e_hp eh218 ?_
  obtain ⟨t219, hf⟩ := ck_e hf
  refine e_putrF (pc := 417) (x := some x217) 12 52 C hin dX12_init_417 (by decide) (by decide) g1453 rfl rfl rfl rfl rfl t219 ?_
  obtain ⟨h220, eh220, hf⟩ := nn_e hf
  refine e_hp eh220 ?_
  have uh220 : m_t h220 = m_t h218 := by rw [eh220]; exact rfl
  refine e_aload_n (pc := 420) C dX12_init_420 0 rfl rfl ?_
  refine e_sipush (v := (1020 : Int32)) (pc := 421) C dX12_init_421 (by decide) ?_
  refine e_newi (pc := 424) C dX12_init_424 g220 (by decide) (N := 1020) (by decide) (by decide) (Nat.le_of_ble_eq_true rfl) (Nat.le_of_ble_eq_true rfl) ?_
  obtain ⟨x221, ex221, hf⟩ := nn_e hf
  refine e_topr ex221 ?_
  obtain ⟨h222, eh222, hf⟩ := nn_e hf
  refine e_hp eh222 ?_
  obtain ⟨t223, hf⟩ := ck_e hf
  refine e_putrF (pc := 426) (x := some x221) 12 53 C hin dX12_init_426 (by decide) (by decide) g1454 rfl rfl rfl rfl rfl t223 ?_
  obtain ⟨h224, eh224, hf⟩ := nn_e hf
  refine e_hp eh224 ?_
  have uh224 : m_t h224 = m_t h222 := by rw [eh224]; exact rfl
  refine e_aload_n (pc := 429) C dX12_init_429 0 rfl rfl ?_
  refine e_iconst (v := (1 : Int32)) (pc := 430) C dX12_init_430 (by decide) ?_
  refine e_newi (pc := 431) C dX12_init_431 g220 (by decide) (N := 1) (by decide) (by decide) (Nat.le_of_ble_eq_true rfl) (Nat.le_of_ble_eq_true rfl) ?_
  obtain ⟨x225, ex225, hf⟩ := nn_e hf
  refine e_topr ex225 ?_
  obtain ⟨h226, eh226, hf⟩ := nn_e hf
  refine e_hp eh226 ?_
  obtain ⟨t227, hf⟩ := ck_e hf
  refine e_putrF (pc := 433) (x := some x225) 12 54 C hin dX12_init_433 (by decide) (by decide) g1455 rfl rfl rfl rfl rfl t227 ?_
  obtain ⟨h228, eh228, hf⟩ := nn_e hf
  refine e_hp eh228 ?_
  have uh228 : m_t h228 = m_t h226 := by rw [eh228]; exact rfl
  refine e_aload_n (pc := 436) C dX12_init_436 0 rfl rfl ?_
  refine e_bipush (v := (8 : Int32)) (pc := 437) C dX12_init_437 (by decide) ?_
  refine e_newi (pc := 439) C dX12_init_439 g220 (by decide) (N := 8) (by decide) (by decide) (Nat.le_of_ble_eq_true rfl) (Nat.le_of_ble_eq_true rfl) ?_
  obtain ⟨x229, ex229, hf⟩ := nn_e hf
  refine e_topr ex229 ?_
  obtain ⟨h230, eh230, hf⟩ := nn_e hf
  refine e_hp eh230 ?_
  obtain ⟨t231, hf⟩ := ck_e hf
  refine e_putrF (pc := 441) (x := some x229) 12 58 C hin dX12_init_441 (by decide) (by decide) g1459 rfl rfl rfl rfl rfl t231 ?_
  obtain ⟨h232, eh232, hf⟩ := nn_e hf
  refine e_hp eh232 ?_
  have uh232 : m_t h232 = m_t h230 := by rw [eh232]; exact rfl
  refine e_aload_n (pc := 444) C dX12_init_444 0 rfl rfl ?_
  refine e_bipush (v := (8 : Int32)) (pc := 445) C dX12_init_445 (by decide) ?_
  refine e_newi (pc := 447) C dX12_init_447 g220 (by decide) (N := 8) (by decide) (by decide) (Nat.le_of_ble_eq_true rfl) (Nat.le_of_ble_eq_true rfl) ?_
  obtain ⟨x233, ex233, hf⟩ := nn_e hf
  refine e_topr ex233 ?_
  obtain ⟨h234, eh234, hf⟩ := nn_e hf
  refine e_hp eh234 ?_
  obtain ⟨t235, hf⟩ := ck_e hf
  refine e_putrF (pc := 449) (x := some x233) 12 59 C hin dX12_init_449 (by decide) (by decide) g1460 rfl rfl rfl rfl rfl t235 ?_
  obtain ⟨h236, eh236, hf⟩ := nn_e hf
  refine e_hp eh236 ?_
  have uh236 : m_t h236 = m_t h234 := by rw [eh236]; exact rfl
  refine e_aload_n (pc := 452) C dX12_init_452 0 rfl rfl ?_
  refine e_sipush (v := (256 : Int32)) (pc := 453) C dX12_init_453 (by decide) ?_
  refine e_newi (pc := 456) C dX12_init_456 g220 (by decide) (N := 256) (by decide) (by decide) (Nat.le_of_ble_eq_true rfl) (Nat.le_of_ble_eq_true rfl) ?_
  obtain ⟨x237, ex237, hf⟩ := nn_e hf
  refine e_topr ex237 ?_
  obtain ⟨h238, eh238, hf⟩ := nn_e hf
  refine e_hp eh238 ?_
  obtain ⟨t239, hf⟩ := ck_e hf
  refine e_putrF (pc := 458) (x := some x237) 12 60 C hin dX12_init_458 (by decide) (by decide) g1461 rfl rfl rfl rfl rfl t239 ?_
  obtain ⟨h240, eh240, hf⟩ := nn_e hf
  refine e_hp eh240 ?_
  have uh240 : m_t h240 = m_t h238 := by rw [eh240]; exact rfl
  refine e_aload_n (pc := 461) C dX12_init_461 0 rfl rfl ?_
  refine e_bipush (v := (8 : Int32)) (pc := 462) C dX12_init_462 (by decide) ?_
  refine e_newi (pc := 464) C dX12_init_464 g220 (by decide) (N := 8) (by decide) (by decide) (Nat.le_of_ble_eq_true rfl) (Nat.le_of_ble_eq_true rfl) ?_
  obtain ⟨x241, ex241, hf⟩ := nn_e hf
  refine e_topr ex241 ?_
  obtain ⟨h242, eh242, hf⟩ := nn_e hf
  refine e_hp eh242 ?_
  obtain ⟨t243, hf⟩ := ck_e hf
  refine e_putrF (pc := 466) (x := some x241) 12 61 C hin dX12_init_466 (by decide) (by decide) g1462 rfl rfl rfl rfl rfl t243 ?_
  obtain ⟨h244, eh244, hf⟩ := nn_e hf
  refine e_hp eh244 ?_
  have uh244 : m_t h244 = m_t h242 := by rw [eh244]; exact rfl
  refine e_aload_n (pc := 469) C dX12_init_469 0 rfl rfl ?_
  refine e_sipush (v := (9150 : Int32)) (pc := 470) C dX12_init_470 (by decide) ?_
  refine e_newi (pc := 473) C dX12_init_473 g220 (by decide) (N := 9150) (by decide) (by decide) (Nat.le_of_ble_eq_true rfl) (Nat.le_of_ble_eq_true rfl) ?_
  obtain ⟨x245, ex245, hf⟩ := nn_e hf
  refine e_topr ex245 ?_
  obtain ⟨h246, eh246, hf⟩ := nn_e hf
  refine e_hp eh246 ?_
  obtain ⟨t247, hf⟩ := ck_e hf
  refine e_putrF (pc := 475) (x := some x245) 12 65 C hin dX12_init_475 (by decide) (by decide) g1466 rfl rfl rfl rfl rfl t247 ?_
  obtain ⟨h248, eh248, hf⟩ := nn_e hf
  refine e_hp eh248 ?_
  have uh248 : m_t h248 = m_t h246 := by rw [eh248]; exact rfl
  refine e_aload_n (pc := 478) C dX12_init_478 0 rfl rfl ?_
  refine e_sipush (v := (1464 : Int32)) (pc := 479) C dX12_init_479 (by decide) ?_
  refine e_newi (pc := 482) C dX12_init_482 g220 (by decide) (N := 1464) (by decide) (by decide) (Nat.le_of_ble_eq_true rfl) (Nat.le_of_ble_eq_true rfl) ?_
  obtain ⟨x249, ex249, hf⟩ := nn_e hf
  refine e_topr ex249 ?_
  obtain ⟨h250, eh250, hf⟩ := nn_e hf
  refine e_hp eh250 ?_
  obtain ⟨t251, hf⟩ := ck_e hf
  refine e_putrF (pc := 484) (x := some x249) 12 66 C hin dX12_init_484 (by decide) (by decide) g1467 rfl rfl rfl rfl rfl t251 ?_
  obtain ⟨h252, eh252, hf⟩ := nn_e hf
  refine e_hp eh252 ?_
  have uh252 : m_t h252 = m_t h250 := by rw [eh252]; exact rfl
  refine e_aload_n (pc := 487) C dX12_init_487 0 rfl rfl ?_
  refine e_sipush (v := (144 : Int32)) (pc := 488) C dX12_init_488 (by decide) ?_
  refine e_newi (pc := 491) C dX12_init_491 g220 (by decide) (N := 144) (by decide) (by decide) (Nat.le_of_ble_eq_true rfl) (Nat.le_of_ble_eq_true rfl) ?_
  obtain ⟨x253, ex253, hf⟩ := nn_e hf
  refine e_topr ex253 ?_
  obtain ⟨h254, eh254, hf⟩ := nn_e hf
  refine e_hp eh254 ?_
  obtain ⟨t255, hf⟩ := ck_e hf
  refine e_putrF (pc := 493) (x := some x253) 12 67 C hin dX12_init_493 (by decide) (by decide) g1468 rfl rfl rfl rfl rfl t255 ?_
  obtain ⟨h256, eh256, hf⟩ := nn_e hf
  refine e_hp eh256 ?_
  have uh256 : m_t h256 = m_t h254 := by rw [eh256]; exact rfl
  refine e_aload_n (pc := 496) C dX12_init_496 0 rfl rfl ?_
  refine e_bipush (v := (24 : Int32)) (pc := 497) C dX12_init_497 (by decide) ?_
  refine e_newi (pc := 499) C dX12_init_499 g220 (by decide) (N := 24) (by decide) (by decide) (Nat.le_of_ble_eq_true rfl) (Nat.le_of_ble_eq_true rfl) ?_
  obtain ⟨x257, ex257, hf⟩ := nn_e hf
  refine e_topr ex257 ?_
  obtain ⟨h258, eh258, hf⟩ := nn_e hf
  refine e_hp eh258 ?_
  obtain ⟨t259, hf⟩ := ck_e hf
  refine e_putrF (pc := 501) (x := some x257) 12 68 C hin dX12_init_501 (by decide) (by decide) g1469 rfl rfl rfl rfl rfl t259 ?_
  obtain ⟨h260, eh260, hf⟩ := nn_e hf
  refine e_hp eh260 ?_
  have uh260 : m_t h260 = m_t h258 := by rw [eh260]; exact rfl
  refine e_aload_n (pc := 504) C dX12_init_504 0 rfl rfl ?_
  refine e_bipush (v := (24 : Int32)) (pc := 505) C dX12_init_505 (by decide) ?_
  refine e_newi (pc := 507) C dX12_init_507 g220 (by decide) (N := 24) (by decide) (by decide) (Nat.le_of_ble_eq_true rfl) (Nat.le_of_ble_eq_true rfl) ?_
  obtain ⟨x261, ex261, hf⟩ := nn_e hf
  refine e_topr ex261 ?_
  obtain ⟨h262, eh262, hf⟩ := nn_e hf
  refine e_hp eh262 ?_
  obtain ⟨t263, hf⟩ := ck_e hf
  refine e_putrF (pc := 509) (x := some x261) 12 69 C hin dX12_init_509 (by decide) (by decide) g1470 rfl rfl rfl rfl rfl t263 ?_
  obtain ⟨h264, eh264, hf⟩ := nn_e hf
  refine e_hp eh264 ?_
  have uh264 : m_t h264 = m_t h262 := by rw [eh264]; exact rfl
  refine e_aload_n (pc := 512) C dX12_init_512 0 rfl rfl ?_
  refine e_bipush (v := (24 : Int32)) (pc := 513) C dX12_init_513 (by decide) ?_
  refine e_newi (pc := 515) C dX12_init_515 g220 (by decide) (N := 24) (by decide) (by decide) (Nat.le_of_ble_eq_true rfl) (Nat.le_of_ble_eq_true rfl) ?_
  obtain ⟨x265, ex265, hf⟩ := nn_e hf
  refine e_topr ex265 ?_
  obtain ⟨h266, eh266, hf⟩ := nn_e hf
  refine e_hp eh266 ?_
  obtain ⟨t267, hf⟩ := ck_e hf
  refine e_putrF (pc := 517) (x := some x265) 12 70 C hin dX12_init_517 (by decide) (by decide) g1471 rfl rfl rfl rfl rfl t267 ?_
  obtain ⟨h268, eh268, hf⟩ := nn_e hf
  refine e_hp eh268 ?_
  have uh268 : m_t h268 = m_t h266 := by rw [eh268]; exact rfl
  refine e_aload_n (pc := 520) C dX12_init_520 0 rfl rfl ?_
  refine e_bipush (v := (8 : Int32)) (pc := 521) C dX12_init_521 (by decide) ?_
  refine e_newi (pc := 523) C dX12_init_523 g220 (by decide) (N := 8) (by decide) (by decide) (Nat.le_of_ble_eq_true rfl) (Nat.le_of_ble_eq_true rfl) ?_
  obtain ⟨x269, ex269, hf⟩ := nn_e hf
  refine e_topr ex269 ?_
  obtain ⟨h270, eh270, hf⟩ := nn_e hf
  refine e_hp eh270 ?_
  obtain ⟨t271, hf⟩ := ck_e hf
  refine e_putrF (pc := 525) (x := some x269) 12 71 C hin dX12_init_525 (by decide) (by decide) g1472 rfl rfl rfl rfl rfl t271 ?_
  obtain ⟨h272, eh272, hf⟩ := nn_e hf
  refine e_hp eh272 ?_
  have uh272 : m_t h272 = m_t h270 := by rw [eh272]; exact rfl
  refine e_aload_n (pc := 528) C dX12_init_528 0 rfl rfl ?_
  refine e_bipush (v := (81 : Int32)) (pc := 529) C dX12_init_529 (by decide) ?_
  refine e_newi (pc := 531) C dX12_init_531 g220 (by decide) (N := 81) (by decide) (by decide) (Nat.le_of_ble_eq_true rfl) (Nat.le_of_ble_eq_true rfl) ?_
  obtain ⟨x273, ex273, hf⟩ := nn_e hf
  refine e_topr ex273 ?_
  obtain ⟨h274, eh274, hf⟩ := nn_e hf
  refine e_hp eh274 ?_
  obtain ⟨t275, hf⟩ := ck_e hf
  refine e_putrF (pc := 533) (x := some x273) 12 72 C hin dX12_init_533 (by decide) (by decide) g1473 rfl rfl rfl rfl rfl t275 ?_
  obtain ⟨h276, eh276, hf⟩ := nn_e hf
  refine e_hp eh276 ?_
  have uh276 : m_t h276 = m_t h274 := by rw [eh276]; exact rfl
  refine e_aload_n (pc := 536) C dX12_init_536 0 rfl rfl ?_
  refine e_bipush (v := (7 : Int32)) (pc := 537) C dX12_init_537 (by decide) ?_
  refine e_newi (pc := 539) C dX12_init_539 g220 (by decide) (N := 7) (by decide) (by decide) (Nat.le_of_ble_eq_true rfl) (Nat.le_of_ble_eq_true rfl) ?_
  obtain ⟨x277, ex277, hf⟩ := nn_e hf
  refine e_topr ex277 ?_
  obtain ⟨h278, eh278, hf⟩ := nn_e hf
  refine e_hp eh278 ?_
  obtain ⟨t279, hf⟩ := ck_e hf
  refine e_putrF (pc := 541) (x := some x277) 12 73 C hin dX12_init_541 (by decide) (by decide) g1474 rfl rfl rfl rfl rfl t279 ?_
  obtain ⟨h280, eh280, hf⟩ := nn_e hf
  refine e_hp eh280 ?_
  have uh280 : m_t h280 = m_t h278 := by rw [eh280]; exact rfl
  refine e_aload_n (pc := 544) C dX12_init_544 0 rfl rfl ?_
  refine e_bipush (v := (7 : Int32)) (pc := 545) C dX12_init_545 (by decide) ?_
  refine e_newi (pc := 547) C dX12_init_547 g220 (by decide) (N := 7) (by decide) (by decide) (Nat.le_of_ble_eq_true rfl) (Nat.le_of_ble_eq_true rfl) ?_
  obtain ⟨x281, ex281, hf⟩ := nn_e hf
  refine e_topr ex281 ?_
  obtain ⟨h282, eh282, hf⟩ := nn_e hf
  refine e_hp eh282 ?_
  obtain ⟨t283, hf⟩ := ck_e hf
  refine e_putrF (pc := 549) (x := some x281) 12 74 C hin dX12_init_549 (by decide) (by decide) g1475 rfl rfl rfl rfl rfl t283 ?_
  obtain ⟨h284, eh284, hf⟩ := nn_e hf
  refine e_hp eh284 ?_
  have uh284 : m_t h284 = m_t h282 := by rw [eh284]; exact rfl
  refine e_aload_n (pc := 552) C dX12_init_552 0 rfl rfl ?_
  refine e_sipush (v := (1464 : Int32)) (pc := 553) C dX12_init_553 (by decide) ?_
  refine e_newi (pc := 556) C dX12_init_556 g220 (by decide) (N := 1464) (by decide) (by decide) (Nat.le_of_ble_eq_true rfl) (Nat.le_of_ble_eq_true rfl) ?_
  obtain ⟨x285, ex285, hf⟩ := nn_e hf
  refine e_topr ex285 ?_
  obtain ⟨h286, eh286, hf⟩ := nn_e hf
  refine e_hp eh286 ?_
  obtain ⟨t287, hf⟩ := ck_e hf
  refine e_putrF (pc := 558) (x := some x285) 12 79 C hin dX12_init_558 (by decide) (by decide) g1480 rfl rfl rfl rfl rfl t287 ?_
  obtain ⟨h288, eh288, hf⟩ := nn_e hf
  refine e_hp eh288 ?_
  have uh288 : m_t h288 = m_t h286 := by rw [eh288]; exact rfl
  refine e_aload_n (pc := 561) C dX12_init_561 0 rfl rfl ?_
  refine e_bipush (v := (24 : Int32)) (pc := 562) C dX12_init_562 (by decide) ?_
  refine e_newz (pc := 564) C dX12_init_564 g1657 (by decide) (N := 24) (by decide) (by decide) (Nat.le_of_ble_eq_true rfl) (Nat.le_of_ble_eq_true rfl) ?_
  obtain ⟨x289, ex289, hf⟩ := nn_e hf
  refine e_topr ex289 ?_
  obtain ⟨h290, eh290, hf⟩ := nn_e hf
  refine e_hp eh290 ?_
  obtain ⟨t291, hf⟩ := ck_e hf
  refine e_putrF (pc := 566) (x := some x289) 12 80 C hin dX12_init_566 (by decide) (by decide) g1481 rfl rfl rfl rfl rfl t291 ?_
  obtain ⟨h292, eh292, hf⟩ := nn_e hf
  refine e_hp eh292 ?_
  have uh292 : m_t h292 = m_t h290 := by rw [eh292]; exact rfl
  refine e_aload_n (pc := 569) C dX12_init_569 0 rfl rfl ?_
  refine e_sipush (v := (6250 : Int32)) (pc := 570) C dX12_init_570 (by decide) ?_
  refine e_newi (pc := 573) C dX12_init_573 g220 (by decide) (N := 6250) (by decide) (by decide) (Nat.le_of_ble_eq_true rfl) (Nat.le_of_ble_eq_true rfl) ?_
  obtain ⟨x293, ex293, hf⟩ := nn_e hf
  refine e_topr ex293 ?_
  obtain ⟨h294, eh294, hf⟩ := nn_e hf
  refine e_hp eh294 ?_
  obtain ⟨t295, hf⟩ := ck_e hf
  refine e_putrF (pc := 575) (x := some x293) 12 81 C hin dX12_init_575 (by decide) (by decide) g1482 rfl rfl rfl rfl rfl t295 ?_
  obtain ⟨h296, eh296, hf⟩ := nn_e hf
  refine e_hp eh296 ?_
  have uh296 : m_t h296 = m_t h294 := by rw [eh296]; exact rfl
  refine e_aload_n (pc := 578) C dX12_init_578 0 rfl rfl ?_
  refine e_iconst (v := (4 : Int32)) (pc := 579) C dX12_init_579 (by decide) ?_
  refine e_newz (pc := 580) C dX12_init_580 g1657 (by decide) (N := 4) (by decide) (by decide) (Nat.le_of_ble_eq_true rfl) (Nat.le_of_ble_eq_true rfl) ?_
  obtain ⟨x297, ex297, hf⟩ := nn_e hf
  refine e_topr ex297 ?_
  obtain ⟨h298, eh298, hf⟩ := nn_e hf
  refine e_hp eh298 ?_
  obtain ⟨t299, hf⟩ := ck_e hf
  refine e_putrF (pc := 582) (x := some x297) 12 82 C hin dX12_init_582 (by decide) (by decide) g1483 rfl rfl rfl rfl rfl t299 ?_
  obtain ⟨h300, eh300, hf⟩ := nn_e hf
  refine e_hp eh300 ?_
  have uh300 : m_t h300 = m_t h298 := by rw [eh300]; exact rfl
  obtain rfl := so_e hf
  exact e_vret (pc := 585) C hr dX12_init_585 (Nat.le_of_ble_eq_true rfl) (Nat.le_of_ble_eq_true rfl)
theorem dX12_in_0 : decode cX12_in 0 = .ok (.lload_n 0, 1) := by decide +kernel
theorem dX12_in_1 : decode cX12_in 1 = .ok (.lload_n 2, 1) := by decide +kernel
theorem dX12_in_2 : decode cX12_in 2 = .ok (.lcmp, 1) := by decide +kernel
theorem dX12_in_3 : decode cX12_in 3 = .ok (.ifCond .lt 14, 3) := by decide +kernel
theorem dX12_in_6 : decode cX12_in 6 = .ok (.lload_n 0, 1) := by decide +kernel
theorem dX12_in_7 : decode cX12_in 7 = .ok (.lload 4, 2) := by decide +kernel
theorem dX12_in_9 : decode cX12_in 9 = .ok (.lcmp, 1) := by decide +kernel
theorem dX12_in_10 : decode cX12_in 10 = .ok (.ifCond .gt 7, 3) := by decide +kernel
theorem dX12_in_13 : decode cX12_in 13 = .ok (.iconst 1, 1) := by decide +kernel
theorem dX12_in_14 : decode cX12_in 14 = .ok (.goto 4, 3) := by decide +kernel
theorem dX12_in_17 : decode cX12_in 17 = .ok (.iconst 0, 1) := by decide +kernel
theorem dX12_in_18 : decode cX12_in 18 = .ok (.ireturn, 1) := by decide +kernel
def f_X12_in (G : GG) (v0 : Int64) (v2 : Int64) (v4 : Int64) (h : AH) : Option (Int32 × AH) :=
if (lg_cmp v0 v2) < 0 then (some ((0 : Int32), h)) else
if 0 < (lg_cmp v0 v4) then (some ((0 : Int32), h)) else
some ((1 : Int32), h)
set_option maxHeartbeats 4000000 in
set_option maxRecDepth 100000 in
theorem ct_X12_in {G : GG} {l : Launch} {v0 : Int64} {v2 : Int64} {v4 : Int64} {h : AH} {y : Int32 × AH} (hf : f_X12_in G v0 v2 v4 h = some y) : Ct G l yX12_in cX12_in 6 (some .boolean) 0 0 0 0 [.long v0, .long v2, .long v4] h (some (.int y.1), y.2) := by
  refine ct_of (by decide) (Nat.le_of_ble_eq_true rfl) ?_
  intro p e s m args below meth c C hm hr hin
  have C : Cx G cX12_in RX12 p s m args meth c := C
  refine e_lv (lv2 := [(0, .long v0), (2, .long v2), (4, .long v4)]) [0, 1, 2] rfl ?_
  unfold f_X12_in at hf
  refine e_lload_n (pc := 0) C dX12_in_0 0 rfl rfl ?_
  refine e_lload_n (pc := 1) C dX12_in_1 1 rfl rfl ?_
  refine e_lcmp (pc := 2) C dX12_in_2 ?_
  rcases it_e hf with ⟨c1, hf⟩ | ⟨c1, hf⟩
  · refine e_if_lt (pc := 3) (tgt := 17) C dX12_in_3 (by decide) (fun _ => ?_) (fun q => absurd c1 q)
    refine e_iconst (v := (0 : Int32)) (pc := 17) C dX12_in_17 (by decide) ?_
    obtain rfl := so_e hf
    exact e_zret (pc := 18) (v := (0 : Int32)) C hr (nz_ok (by decide)) dX12_in_18 (Nat.le_of_ble_eq_true rfl) (Nat.le_of_ble_eq_true rfl)
  · refine e_if_lt (pc := 3) (tgt := 17) C dX12_in_3 (by decide) (fun q => absurd q c1) (fun _ => ?_)
    refine e_lload_n (pc := 6) C dX12_in_6 0 rfl rfl ?_
    refine e_lload (pc := 7) C dX12_in_7 2 rfl ?_
    refine e_lcmp (pc := 9) C dX12_in_9 ?_
    rcases it_e hf with ⟨c2, hf⟩ | ⟨c2, hf⟩
    · refine e_if_gt (pc := 10) (tgt := 17) C dX12_in_10 (by decide) (fun _ => ?_) (fun q => absurd c2 q)
      refine e_iconst (v := (0 : Int32)) (pc := 17) C dX12_in_17 (by decide) ?_
      obtain rfl := so_e hf
      exact e_zret (pc := 18) (v := (0 : Int32)) C hr (nz_ok (by decide)) dX12_in_18 (Nat.le_of_ble_eq_true rfl) (Nat.le_of_ble_eq_true rfl)
    · refine e_if_gt (pc := 10) (tgt := 17) C dX12_in_10 (by decide) (fun q => absurd q c2) (fun _ => ?_)
      refine e_iconst (v := (1 : Int32)) (pc := 13) C dX12_in_13 (by decide) ?_
      refine e_goto (pc := 14) (tgt := 18) C dX12_in_14 (by decide) ?_
      obtain rfl := so_e hf
      exact e_zret (pc := 18) (v := (1 : Int32)) C hr (nz_ok (by decide)) dX12_in_18 (Nat.le_of_ble_eq_true rfl) (Nat.le_of_ble_eq_true rfl)
theorem dX12_bits_0 : decode cX12_bits 0 = .ok (.iconst 0, 1) := by decide +kernel
theorem dX12_bits_1 : decode cX12_bits 1 = .ok (.istore_n 1, 1) := by decide +kernel
theorem dX12_bits_2 : decode cX12_bits 2 = .ok (.iconst 0, 1) := by decide +kernel
theorem dX12_bits_3 : decode cX12_bits 3 = .ok (.istore_n 2, 1) := by decide +kernel
theorem dX12_bits_4 : decode cX12_bits 4 = .ok (.iload_n 2, 1) := by decide +kernel
theorem dX12_bits_5 : decode cX12_bits 5 = .ok (.bipush 16, 2) := by decide +kernel
theorem dX12_bits_7 : decode cX12_bits 7 = .ok (.if_icmp .ge 17, 3) := by decide +kernel
theorem dX12_bits_10 : decode cX12_bits 10 = .ok (.iload_n 1, 1) := by decide +kernel
theorem dX12_bits_11 : decode cX12_bits 11 = .ok (.iload_n 0, 1) := by decide +kernel
theorem dX12_bits_12 : decode cX12_bits 12 = .ok (.iload_n 2, 1) := by decide +kernel
theorem dX12_bits_13 : decode cX12_bits 13 = .ok (.ishr, 1) := by decide +kernel
theorem dX12_bits_14 : decode cX12_bits 14 = .ok (.iconst 1, 1) := by decide +kernel
theorem dX12_bits_15 : decode cX12_bits 15 = .ok (.iand, 1) := by decide +kernel
theorem dX12_bits_16 : decode cX12_bits 16 = .ok (.iadd, 1) := by decide +kernel
theorem dX12_bits_17 : decode cX12_bits 17 = .ok (.istore_n 1, 1) := by decide +kernel
theorem dX12_bits_18 : decode cX12_bits 18 = .ok (.iinc 2 1, 3) := by decide +kernel
theorem dX12_bits_21 : decode cX12_bits 21 = .ok (.goto (-17), 3) := by decide +kernel
theorem dX12_bits_24 : decode cX12_bits 24 = .ok (.iload_n 1, 1) := by decide +kernel
theorem dX12_bits_25 : decode cX12_bits 25 = .ok (.ireturn, 1) := by decide +kernel
def F_X12_bits_4 (G : GG) (v0 : Int32) (self_4 : Int32 → Int32 → AH → Option (Int32 × AH)) (v1 : Int32) (v2 : Int32) (h : AH) : Option (Int32 × AH) :=
if (16 : Int32) ≤ v2 then (some (v1, h)) else
nn (v1 + ((v0 >>> (v2 &&& 31)) &&& (1 : Int32))) fun x2 =>
nn (v2 + (1 : Int32)) fun x3 =>
self_4 x2 x3 h
def f_X12_bits (G : GG) (v0 : Int32) (h : AH) : Option (Int32 × AH) :=
lq2 (F_X12_bits_4 G v0 ) bN (0 : Int32) (0 : Int32) h
set_option maxHeartbeats 4000000 in
set_option maxRecDepth 100000 in
theorem el_X12_bits_4 {G : GG} {p : Program} {l : Launch} {e : Env} {s : State} {m : MethodId} {args : Array Value} {below : List Frame} {meth : Method} {c : Code} {y : Int32 × AH} (C : Cx G cX12_bits RX12 p s m args meth c) (hm : c.maxLocals = 3) (hr : meth.sig.returnType = (some .int)) (hin : meth.name = yX12_bits.name) {v0 : Int32}  :
    ∀ (n : Nat) (v1 : Int32) (v2 : Int32) (h : AH), lq2 (F_X12_bits_4 G v0) n v1 v2 h = some y → EE G p l e ({ frames := 0, cells := 0, slots := 0, locals := 0 } : Room) s m args below meth c (some (.int y.1), y.2) 0 0 4 [(0, .int v0), (1, .int v1), (2, .int v2)] [] h 0 0 := by
  intro n
  induction n with
  | zero => intro v1 v2 h hf; exact (no_e hf).elim
  | succ n ih_4 =>
    intro v1 v2 h hf
    have hf : F_X12_bits_4 G v0 (lq2 (F_X12_bits_4 G v0) n) v1 v2 h = some y := hf
    generalize lq2 (F_X12_bits_4 G v0) n = self_4 at hf ih_4
    unfold F_X12_bits_4 at hf
    refine e_iload_n (pc := 4) C dX12_bits_4 2 rfl rfl ?_
    refine e_bipush (v := (16 : Int32)) (pc := 5) C dX12_bits_5 (by decide) ?_
    rcases it_e hf with ⟨c1, hf⟩ | ⟨c1, hf⟩
    · refine e_icmp_ge (pc := 7) (tgt := 24) C dX12_bits_7 (by decide) (fun _ => ?_) (fun q => absurd c1 q)
      refine e_iload_n (pc := 24) C dX12_bits_24 1 rfl rfl ?_
      obtain rfl := so_e hf
      exact e_iret (pc := 25) C hr dX12_bits_25 (Nat.le_of_ble_eq_true rfl) (Nat.le_of_ble_eq_true rfl)
    · refine e_icmp_ge (pc := 7) (tgt := 24) C dX12_bits_7 (by decide) (fun q => absurd q c1) (fun _ => ?_)
      refine e_iload_n (pc := 10) C dX12_bits_10 1 rfl rfl ?_
      refine e_iload_n (pc := 11) C dX12_bits_11 0 rfl rfl ?_
      refine e_iload_n (pc := 12) C dX12_bits_12 2 rfl rfl ?_
      refine e_ishr (pc := 13) C dX12_bits_13 ?_
      refine e_iconst (v := (1 : Int32)) (pc := 14) C dX12_bits_14 (by decide) ?_
      refine e_iand (pc := 15) C dX12_bits_15 ?_
      refine e_iadd (pc := 16) C dX12_bits_16 ?_
      obtain ⟨x2, ex2, hf⟩ := nn_e hf
      refine e_topi ex2 ?_
      refine e_istore_n (pc := 17) (lv2 := [(1, .int x2), (0, .int v0), (2, .int v2)]) C hm dX12_bits_17 rfl (by decide) rfl ?_
      obtain ⟨x3, ex3, hf⟩ := nn_e hf
      refine e_iinc (pc := 18) (v := x3) (lv2 := [(2, .int x3), (1, .int x2), (0, .int v0)]) C hm dX12_bits_18 2 rfl (by rw [ex3]; rfl) (by decide) rfl ?_
      refine e_goto (pc := 21) (tgt := 4) C dX12_bits_21 (by decide) ?_
      refine e_lv (lv2 := [(0, .int v0), (1, .int x2), (2, .int x3)]) [2, 1, 0] rfl ?_
      exact ih_4 x2 x3 h hf
set_option maxHeartbeats 4000000 in
set_option maxRecDepth 100000 in
theorem ct_X12_bits {G : GG} {l : Launch} {v0 : Int32} {h : AH} {y : Int32 × AH} (hf : f_X12_bits G v0 h = some y) : Ct G l yX12_bits cX12_bits 3 (some .int) 0 0 0 0 [.int v0] h (some (.int y.1), y.2) := by
  refine ct_of (by decide) (Nat.le_of_ble_eq_true rfl) ?_
  intro p e s m args below meth c C hm hr hin
  have C : Cx G cX12_bits RX12 p s m args meth c := C
  refine e_lv (lv2 := [(0, .int v0)]) [0] rfl ?_
  unfold f_X12_bits at hf
  refine e_iconst (v := (0 : Int32)) (pc := 0) C dX12_bits_0 (by decide) ?_
  refine e_istore_n (pc := 1) (lv2 := [(1, .int (0 : Int32)), (0, .int v0)]) C hm dX12_bits_1 rfl (by decide) rfl ?_
  refine e_iconst (v := (0 : Int32)) (pc := 2) C dX12_bits_2 (by decide) ?_
  refine e_istore_n (pc := 3) (lv2 := [(2, .int (0 : Int32)), (1, .int (0 : Int32)), (0, .int v0)]) C hm dX12_bits_3 rfl (by decide) rfl ?_
  refine e_lv (lv2 := [(0, .int v0), (1, .int (0 : Int32)), (2, .int (0 : Int32))]) [2, 1, 0] rfl ?_
  exact el_X12_bits_4 C hm hr hin bN (0 : Int32) (0 : Int32) h hf
theorem dX12_has_0 : decode cX12_has 0 = .ok (.iload_n 0, 1) := by decide +kernel
theorem dX12_has_1 : decode cX12_has 1 = .ok (.iload_n 1, 1) := by decide +kernel
theorem dX12_has_2 : decode cX12_has 2 = .ok (.ishr, 1) := by decide +kernel
theorem dX12_has_3 : decode cX12_has 3 = .ok (.iconst 1, 1) := by decide +kernel
theorem dX12_has_4 : decode cX12_has 4 = .ok (.iand, 1) := by decide +kernel
theorem dX12_has_5 : decode cX12_has 5 = .ok (.iconst 1, 1) := by decide +kernel
theorem dX12_has_6 : decode cX12_has 6 = .ok (.if_icmp .ne 7, 3) := by decide +kernel
theorem dX12_has_9 : decode cX12_has 9 = .ok (.iconst 1, 1) := by decide +kernel
theorem dX12_has_10 : decode cX12_has 10 = .ok (.goto 4, 3) := by decide +kernel
theorem dX12_has_13 : decode cX12_has 13 = .ok (.iconst 0, 1) := by decide +kernel
theorem dX12_has_14 : decode cX12_has 14 = .ok (.ireturn, 1) := by decide +kernel
def f_X12_has (G : GG) (v0 : Int32) (v1 : Int32) (h : AH) : Option (Int32 × AH) :=
if ((v0 >>> (v1 &&& 31)) &&& (1 : Int32)) = (1 : Int32) then (some ((1 : Int32), h)) else
some ((0 : Int32), h)
set_option maxHeartbeats 4000000 in
set_option maxRecDepth 100000 in
theorem ct_X12_has {G : GG} {l : Launch} {v0 : Int32} {v1 : Int32} {h : AH} {y : Int32 × AH} (hf : f_X12_has G v0 v1 h = some y) : Ct G l yX12_has cX12_has 2 (some .boolean) 0 0 0 0 [.int v0, .int v1] h (some (.int y.1), y.2) := by
  refine ct_of (by decide) (Nat.le_of_ble_eq_true rfl) ?_
  intro p e s m args below meth c C hm hr hin
  have C : Cx G cX12_has RX12 p s m args meth c := C
  refine e_lv (lv2 := [(0, .int v0), (1, .int v1)]) [0, 1] rfl ?_
  unfold f_X12_has at hf
  refine e_iload_n (pc := 0) C dX12_has_0 0 rfl rfl ?_
  refine e_iload_n (pc := 1) C dX12_has_1 1 rfl rfl ?_
  refine e_ishr (pc := 2) C dX12_has_2 ?_
  refine e_iconst (v := (1 : Int32)) (pc := 3) C dX12_has_3 (by decide) ?_
  refine e_iand (pc := 4) C dX12_has_4 ?_
  refine e_iconst (v := (1 : Int32)) (pc := 5) C dX12_has_5 (by decide) ?_
  rcases it_e hf with ⟨c1, hf⟩ | ⟨c1, hf⟩
  · refine e_icmp_ne (pc := 6) (tgt := 13) C dX12_has_6 (by decide) (fun q => absurd c1 q) (fun _ => ?_)
    refine e_iconst (v := (1 : Int32)) (pc := 9) C dX12_has_9 (by decide) ?_
    refine e_goto (pc := 10) (tgt := 14) C dX12_has_10 (by decide) ?_
    obtain rfl := so_e hf
    exact e_zret (pc := 14) (v := (1 : Int32)) C hr (nz_ok (by decide)) dX12_has_14 (Nat.le_of_ble_eq_true rfl) (Nat.le_of_ble_eq_true rfl)
  · refine e_icmp_ne (pc := 6) (tgt := 13) C dX12_has_6 (by decide) (fun _ => ?_) (fun q => absurd q c1)
    refine e_iconst (v := (0 : Int32)) (pc := 13) C dX12_has_13 (by decide) ?_
    obtain rfl := so_e hf
    exact e_zret (pc := 14) (v := (0 : Int32)) C hr (nz_ok (by decide)) dX12_has_14 (Nat.le_of_ble_eq_true rfl) (Nat.le_of_ble_eq_true rfl)
theorem dX12_held_0 : decode cX12_held 0 = .ok (.lload_n 0, 1) := by decide +kernel
theorem dX12_held_1 : decode cX12_held 1 = .ok (.lconst 0, 1) := by decide +kernel
theorem dX12_held_2 : decode cX12_held 2 = .ok (.lcmp, 1) := by decide +kernel
theorem dX12_held_3 : decode cX12_held 3 = .ok (.ifCond .ge 7, 3) := by decide +kernel
theorem dX12_held_6 : decode cX12_held 6 = .ok (.iconst 0, 1) := by decide +kernel
theorem dX12_held_7 : decode cX12_held 7 = .ok (.goto 16, 3) := by decide +kernel
theorem dX12_held_10 : decode cX12_held 10 = .ok (.lload_n 0, 1) := by decide +kernel
theorem dX12_held_11 : decode cX12_held 11 = .ok (.iload_n 2, 1) := by decide +kernel
theorem dX12_held_12 : decode cX12_held 12 = .ok (.i2l, 1) := by decide +kernel
theorem dX12_held_13 : decode cX12_held 13 = .ok (.lcmp, 1) := by decide +kernel
theorem dX12_held_14 : decode cX12_held 14 = .ok (.ifCond .le 7, 3) := by decide +kernel
theorem dX12_held_17 : decode cX12_held 17 = .ok (.iload_n 2, 1) := by decide +kernel
theorem dX12_held_18 : decode cX12_held 18 = .ok (.goto 5, 3) := by decide +kernel
theorem dX12_held_21 : decode cX12_held 21 = .ok (.lload_n 0, 1) := by decide +kernel
theorem dX12_held_22 : decode cX12_held 22 = .ok (.l2i, 1) := by decide +kernel
theorem dX12_held_23 : decode cX12_held 23 = .ok (.ireturn, 1) := by decide +kernel
def f_X12_held (G : GG) (v0 : Int64) (v2 : Int32) (h : AH) : Option (Int32 × AH) :=
if 0 ≤ (lg_cmp v0 (0 : Int64)) then (if (lg_cmp v0 v2.toInt64) ≤ 0 then (some (v0.toInt32, h)) else
some (v2, h)) else
some ((0 : Int32), h)
set_option maxHeartbeats 4000000 in
set_option maxRecDepth 100000 in
theorem ct_X12_held {G : GG} {l : Launch} {v0 : Int64} {v2 : Int32} {h : AH} {y : Int32 × AH} (hf : f_X12_held G v0 v2 h = some y) : Ct G l yX12_held cX12_held 3 (some .int) 0 0 0 0 [.long v0, .int v2] h (some (.int y.1), y.2) := by
  refine ct_of (by decide) (Nat.le_of_ble_eq_true rfl) ?_
  intro p e s m args below meth c C hm hr hin
  have C : Cx G cX12_held RX12 p s m args meth c := C
  refine e_lv (lv2 := [(0, .long v0), (2, .int v2)]) [0, 1] rfl ?_
  unfold f_X12_held at hf
  refine e_lload_n (pc := 0) C dX12_held_0 0 rfl rfl ?_
  refine e_lconst (v := (0 : Int64)) (pc := 1) C dX12_held_1 (by decide) ?_
  refine e_lcmp (pc := 2) C dX12_held_2 ?_
  rcases it_e hf with ⟨c1, hf⟩ | ⟨c1, hf⟩
  · refine e_if_ge (pc := 3) (tgt := 10) C dX12_held_3 (by decide) (fun _ => ?_) (fun q => absurd c1 q)
    refine e_lload_n (pc := 10) C dX12_held_10 0 rfl rfl ?_
    refine e_iload_n (pc := 11) C dX12_held_11 1 rfl rfl ?_
    refine e_i2l (pc := 12) C dX12_held_12 ?_
    refine e_lcmp (pc := 13) C dX12_held_13 ?_
    rcases it_e hf with ⟨c2, hf⟩ | ⟨c2, hf⟩
    · refine e_if_le (pc := 14) (tgt := 21) C dX12_held_14 (by decide) (fun _ => ?_) (fun q => absurd c2 q)
      refine e_lload_n (pc := 21) C dX12_held_21 0 rfl rfl ?_
      refine e_l2i (pc := 22) C dX12_held_22 ?_
      obtain rfl := so_e hf
      exact e_iret (pc := 23) C hr dX12_held_23 (Nat.le_of_ble_eq_true rfl) (Nat.le_of_ble_eq_true rfl)
    · refine e_if_le (pc := 14) (tgt := 21) C dX12_held_14 (by decide) (fun q => absurd q c2) (fun _ => ?_)
      refine e_iload_n (pc := 17) C dX12_held_17 1 rfl rfl ?_
      refine e_goto (pc := 18) (tgt := 23) C dX12_held_18 (by decide) ?_
      obtain rfl := so_e hf
      exact e_iret (pc := 23) C hr dX12_held_23 (Nat.le_of_ble_eq_true rfl) (Nat.le_of_ble_eq_true rfl)
  · refine e_if_ge (pc := 3) (tgt := 10) C dX12_held_3 (by decide) (fun q => absurd q c1) (fun _ => ?_)
    refine e_iconst (v := (0 : Int32)) (pc := 6) C dX12_held_6 (by decide) ?_
    refine e_goto (pc := 7) (tgt := 23) C dX12_held_7 (by decide) ?_
    obtain rfl := so_e hf
    exact e_iret (pc := 23) C hr dX12_held_23 (Nat.le_of_ble_eq_true rfl) (Nat.le_of_ble_eq_true rfl)
theorem dX12_isTrain_0 : decode cX12_isTrain 0 = .ok (.aload_n 0, 1) := by decide +kernel
theorem dX12_isTrain_1 : decode cX12_isTrain 1 = .ok (.getfield 9, 3) := by decide +kernel
theorem dX12_isTrain_4 : decode cX12_isTrain 4 = .ok (.iconst 0, 1) := by decide +kernel
theorem dX12_isTrain_5 : decode cX12_isTrain 5 = .ok (.iaload, 1) := by decide +kernel
theorem dX12_isTrain_6 : decode cX12_isTrain 6 = .ok (.iconst 1, 1) := by decide +kernel
theorem dX12_isTrain_7 : decode cX12_isTrain 7 = .ok (.if_icmp .ne 7, 3) := by decide +kernel
theorem dX12_isTrain_10 : decode cX12_isTrain 10 = .ok (.iconst 1, 1) := by decide +kernel
theorem dX12_isTrain_11 : decode cX12_isTrain 11 = .ok (.goto 4, 3) := by decide +kernel
theorem dX12_isTrain_14 : decode cX12_isTrain 14 = .ok (.iconst 0, 1) := by decide +kernel
theorem dX12_isTrain_15 : decode cX12_isTrain 15 = .ok (.ireturn, 1) := by decide +kernel
def f_X12_isTrain (G : GG) (v0 : Nat) (h : AH) : Option (Int32 × AH) :=
ck (m_t h v0 = .inl 12) <|
ob (m_r h v0 1) fun b2 =>
ck (ixb h b2 .int (0 : Int32) = true) <|
if (m_i h b2 (0 : Int32).toNatClampNeg) = (1 : Int32) then (some ((1 : Int32), h)) else
some ((0 : Int32), h)
set_option maxHeartbeats 4000000 in
set_option maxRecDepth 100000 in
theorem ct_X12_isTrain {G : GG} {l : Launch} {v0 : Nat} {h : AH} {y : Int32 × AH} (hf : f_X12_isTrain G v0 h = some y) : Ct G l yX12_isTrain cX12_isTrain 1 (some .boolean) 0 0 0 0 [.ref v0] h (some (.int y.1), y.2) := by
  refine ct_of (by decide) (Nat.le_of_ble_eq_true rfl) ?_
  intro p e s m args below meth c C hm hr hin
  have C : Cx G cX12_isTrain RX12 p s m args meth c := C
  refine e_lv (lv2 := [(0, .ref v0)]) [0] rfl ?_
  unfold f_X12_isTrain at hf
  refine e_aload_n (pc := 0) C dX12_isTrain_0 0 rfl rfl ?_
  obtain ⟨t1, hf⟩ := ck_e hf
  refine e_getr (pc := 1) 12 1 C dX12_isTrain_1 (by decide) (by decide) g1402 rfl t1 ?_
  obtain ⟨b2, eb2, hf⟩ := ob_e hf
  refine e_rf eb2 ?_
  refine e_iconst (v := (0 : Int32)) (pc := 4) C dX12_isTrain_4 (by decide) ?_
  obtain ⟨q3, hf⟩ := ck_e hf
  obtain ⟨n4, tn4, in4⟩ := ix_e q3
  refine e_iald (pc := 5) C dX12_isTrain_5 tn4 in4 ?_
  refine e_iconst (v := (1 : Int32)) (pc := 6) C dX12_isTrain_6 (by decide) ?_
  rcases it_e hf with ⟨c5, hf⟩ | ⟨c5, hf⟩
  · refine e_icmp_ne (pc := 7) (tgt := 14) C dX12_isTrain_7 (by decide) (fun q => absurd c5 q) (fun _ => ?_)
    refine e_iconst (v := (1 : Int32)) (pc := 10) C dX12_isTrain_10 (by decide) ?_
    refine e_goto (pc := 11) (tgt := 15) C dX12_isTrain_11 (by decide) ?_
    obtain rfl := so_e hf
    exact e_zret (pc := 15) (v := (1 : Int32)) C hr (nz_ok (by decide)) dX12_isTrain_15 (Nat.le_of_ble_eq_true rfl) (Nat.le_of_ble_eq_true rfl)
  · refine e_icmp_ne (pc := 7) (tgt := 14) C dX12_isTrain_7 (by decide) (fun _ => ?_) (fun q => absurd q c5)
    refine e_iconst (v := (0 : Int32)) (pc := 14) C dX12_isTrain_14 (by decide) ?_
    obtain rfl := so_e hf
    exact e_zret (pc := 15) (v := (0 : Int32)) C hr (nz_ok (by decide)) dX12_isTrain_15 (Nat.le_of_ble_eq_true rfl) (Nat.le_of_ble_eq_true rfl)
theorem dX12_isPerson_0 : decode cX12_isPerson 0 = .ok (.iload_n 1, 1) := by decide +kernel
theorem dX12_isPerson_1 : decode cX12_isPerson 1 = .ok (.i2l, 1) := by decide +kernel
theorem dX12_isPerson_2 : decode cX12_isPerson 2 = .ok (.lconst 0, 1) := by decide +kernel
theorem dX12_isPerson_3 : decode cX12_isPerson 3 = .ok (.aload_n 0, 1) := by decide +kernel
theorem dX12_isPerson_4 : decode cX12_isPerson 4 = .ok (.getfield 9, 3) := by decide +kernel
theorem dX12_isPerson_7 : decode cX12_isPerson 7 = .ok (.bipush 6, 2) := by decide +kernel
theorem dX12_isPerson_9 : decode cX12_isPerson 9 = .ok (.iaload, 1) := by decide +kernel
theorem dX12_isPerson_10 : decode cX12_isPerson 10 = .ok (.iconst 1, 1) := by decide +kernel
theorem dX12_isPerson_11 : decode cX12_isPerson 11 = .ok (.isub, 1) := by decide +kernel
theorem dX12_isPerson_12 : decode cX12_isPerson 12 = .ok (.i2l, 1) := by decide +kernel
theorem dX12_isPerson_13 : decode cX12_isPerson 13 = .ok (.invokestatic 206, 3) := by decide +kernel
theorem dX12_isPerson_16 : decode cX12_isPerson 16 = .ok (.ireturn, 1) := by decide +kernel
def f_X12_isPerson (G : GG) (v0 : Nat) (v1 : Int32) (h : AH) : Option (Int32 × AH) :=
ck (m_t h v0 = .inl 12) <|
ob (m_r h v0 1) fun b2 =>
ck (ixb h b2 .int (6 : Int32) = true) <|
cb (f_X12_in G v1.toInt64 (0 : Int64) (((m_i h b2 (6 : Int32).toNatClampNeg) - (1 : Int32)).toInt64) h) fun r7 h5 =>
ck (r7 &&& 1 = r7) <|
some (r7, h5)
set_option maxHeartbeats 4000000 in
set_option maxRecDepth 100000 in
theorem ct_X12_isPerson {G : GG} {l : Launch} {v0 : Nat} {v1 : Int32} {h : AH} {y : Int32 × AH} (hf : f_X12_isPerson G v0 v1 h = some y) : Ct G l yX12_isPerson cX12_isPerson 2 (some .boolean) 1 25 0 0 [.ref v0, .int v1] h (some (.int y.1), y.2) := by
  refine ct_of (by decide) (Nat.le_of_ble_eq_true rfl) ?_
  intro p e s m args below meth c C hm hr hin
  have C : Cx G cX12_isPerson RX12 p s m args meth c := C
  refine e_lv (lv2 := [(0, .ref v0), (1, .int v1)]) [0, 1] rfl ?_
  unfold f_X12_isPerson at hf
  refine e_iload_n (pc := 0) C dX12_isPerson_0 1 rfl rfl ?_
  refine e_i2l (pc := 1) C dX12_isPerson_1 ?_
  refine e_lconst (v := (0 : Int64)) (pc := 2) C dX12_isPerson_2 (by decide) ?_
  refine e_aload_n (pc := 3) C dX12_isPerson_3 0 rfl rfl ?_
  obtain ⟨t1, hf⟩ := ck_e hf
  refine e_getr (pc := 4) 12 1 C dX12_isPerson_4 (by decide) (by decide) g1402 rfl t1 ?_
  obtain ⟨b2, eb2, hf⟩ := ob_e hf
  refine e_rf eb2 ?_
  refine e_bipush (v := (6 : Int32)) (pc := 7) C dX12_isPerson_7 (by decide) ?_
  obtain ⟨q3, hf⟩ := ck_e hf
  obtain ⟨n4, tn4, in4⟩ := ix_e q3
  refine e_iald (pc := 9) C dX12_isPerson_9 tn4 in4 ?_
  refine e_iconst (v := (1 : Int32)) (pc := 10) C dX12_isPerson_10 (by decide) ?_
  refine e_isub (pc := 11) C dX12_isPerson_11 ?_
  refine e_i2l (pc := 12) C dX12_isPerson_12 ?_
  obtain ⟨r7, h5, y6, hf⟩ := cb_e hf
  refine e_callSi (pc := 13) (st := []) C (ct_X12_in y6) dX12_isPerson_13 g1737 g1738 g157 g1739 hd_X12_in rfl ⟨Nat.le_of_ble_eq_true rfl, Nat.le_of_ble_eq_true rfl⟩ ⟨Nat.le_of_ble_eq_true rfl, Nat.le_of_ble_eq_true rfl⟩ rfl (Nat.le_of_ble_eq_true rfl) ?_
  obtain ⟨q8, hf⟩ := ck_e hf
  obtain rfl := so_e hf
  exact e_zret (pc := 16) (v := r7) C hr (nz_ok q8) dX12_isPerson_16 (Nat.le_of_ble_eq_true rfl) (Nat.le_of_ble_eq_true rfl)
theorem dX12_rides_0 : decode cX12_rides 0 = .ok (.aload_n 0, 1) := by decide +kernel
theorem dX12_rides_1 : decode cX12_rides 1 = .ok (.getfield 37, 3) := by decide +kernel
theorem dX12_rides_4 : decode cX12_rides 4 = .ok (.iload_n 1, 1) := by decide +kernel
theorem dX12_rides_5 : decode cX12_rides 5 = .ok (.iaload, 1) := by decide +kernel
theorem dX12_rides_6 : decode cX12_rides 6 = .ok (.iconst 1, 1) := by decide +kernel
theorem dX12_rides_7 : decode cX12_rides 7 = .ok (.if_icmp .ne 7, 3) := by decide +kernel
theorem dX12_rides_10 : decode cX12_rides 10 = .ok (.iconst 1, 1) := by decide +kernel
theorem dX12_rides_11 : decode cX12_rides 11 = .ok (.goto 4, 3) := by decide +kernel
theorem dX12_rides_14 : decode cX12_rides 14 = .ok (.iconst 0, 1) := by decide +kernel
theorem dX12_rides_15 : decode cX12_rides 15 = .ok (.ireturn, 1) := by decide +kernel
def f_X12_rides (G : GG) (v0 : Nat) (v1 : Int32) (h : AH) : Option (Int32 × AH) :=
ck (m_t h v0 = .inl 12) <|
ob (m_r h v0 10) fun b2 =>
ck (ixb h b2 .int v1 = true) <|
if (m_i h b2 v1.toNatClampNeg) = (1 : Int32) then (some ((1 : Int32), h)) else
some ((0 : Int32), h)
set_option maxHeartbeats 4000000 in
set_option maxRecDepth 100000 in
theorem ct_X12_rides {G : GG} {l : Launch} {v0 : Nat} {v1 : Int32} {h : AH} {y : Int32 × AH} (hf : f_X12_rides G v0 v1 h = some y) : Ct G l yX12_rides cX12_rides 2 (some .boolean) 0 0 0 0 [.ref v0, .int v1] h (some (.int y.1), y.2) := by
  refine ct_of (by decide) (Nat.le_of_ble_eq_true rfl) ?_
  intro p e s m args below meth c C hm hr hin
  have C : Cx G cX12_rides RX12 p s m args meth c := C
  refine e_lv (lv2 := [(0, .ref v0), (1, .int v1)]) [0, 1] rfl ?_
  unfold f_X12_rides at hf
  refine e_aload_n (pc := 0) C dX12_rides_0 0 rfl rfl ?_
  obtain ⟨t1, hf⟩ := ck_e hf
  refine e_getr (pc := 1) 12 10 C dX12_rides_1 (by decide) (by decide) g1411 rfl t1 ?_
  obtain ⟨b2, eb2, hf⟩ := ob_e hf
  refine e_rf eb2 ?_
  refine e_iload_n (pc := 4) C dX12_rides_4 1 rfl rfl ?_
  obtain ⟨q3, hf⟩ := ck_e hf
  obtain ⟨n4, tn4, in4⟩ := ix_e q3
  refine e_iald (pc := 5) C dX12_rides_5 tn4 in4 ?_
  refine e_iconst (v := (1 : Int32)) (pc := 6) C dX12_rides_6 (by decide) ?_
  rcases it_e hf with ⟨c5, hf⟩ | ⟨c5, hf⟩
  · refine e_icmp_ne (pc := 7) (tgt := 14) C dX12_rides_7 (by decide) (fun q => absurd c5 q) (fun _ => ?_)
    refine e_iconst (v := (1 : Int32)) (pc := 10) C dX12_rides_10 (by decide) ?_
    refine e_goto (pc := 11) (tgt := 15) C dX12_rides_11 (by decide) ?_
    obtain rfl := so_e hf
    exact e_zret (pc := 15) (v := (1 : Int32)) C hr (nz_ok (by decide)) dX12_rides_15 (Nat.le_of_ble_eq_true rfl) (Nat.le_of_ble_eq_true rfl)
  · refine e_icmp_ne (pc := 7) (tgt := 14) C dX12_rides_7 (by decide) (fun _ => ?_) (fun q => absurd q c5)
    refine e_iconst (v := (0 : Int32)) (pc := 14) C dX12_rides_14 (by decide) ?_
    obtain rfl := so_e hf
    exact e_zret (pc := 15) (v := (0 : Int32)) C hr (nz_ok (by decide)) dX12_rides_15 (Nat.le_of_ble_eq_true rfl) (Nat.le_of_ble_eq_true rfl)
theorem dX12_milesLeft_0 : decode cX12_milesLeft 0 = .ok (.sipush 240, 3) := by decide +kernel
theorem dX12_milesLeft_3 : decode cX12_milesLeft 3 = .ok (.aload_n 0, 1) := by decide +kernel
theorem dX12_milesLeft_4 : decode cX12_milesLeft 4 = .ok (.getfield 9, 3) := by decide +kernel
theorem dX12_milesLeft_7 : decode cX12_milesLeft 7 = .ok (.bipush 10, 2) := by decide +kernel
theorem dX12_milesLeft_9 : decode cX12_milesLeft 9 = .ok (.iaload, 1) := by decide +kernel
theorem dX12_milesLeft_10 : decode cX12_milesLeft 10 = .ok (.isub, 1) := by decide +kernel
theorem dX12_milesLeft_11 : decode cX12_milesLeft 11 = .ok (.ireturn, 1) := by decide +kernel
def f_X12_milesLeft (G : GG) (v0 : Nat) (h : AH) : Option (Int32 × AH) :=
ck (m_t h v0 = .inl 12) <|
ob (m_r h v0 1) fun b2 =>
ck (ixb h b2 .int (10 : Int32) = true) <|
some ((240 : Int32) - (m_i h b2 (10 : Int32).toNatClampNeg), h)
set_option maxHeartbeats 4000000 in
set_option maxRecDepth 100000 in
theorem ct_X12_milesLeft {G : GG} {l : Launch} {v0 : Nat} {h : AH} {y : Int32 × AH} (hf : f_X12_milesLeft G v0 h = some y) : Ct G l yX12_milesLeft cX12_milesLeft 1 (some .int) 0 0 0 0 [.ref v0] h (some (.int y.1), y.2) := by
  refine ct_of (by decide) (Nat.le_of_ble_eq_true rfl) ?_
  intro p e s m args below meth c C hm hr hin
  have C : Cx G cX12_milesLeft RX12 p s m args meth c := C
  refine e_lv (lv2 := [(0, .ref v0)]) [0] rfl ?_
  unfold f_X12_milesLeft at hf
  refine e_sipush (v := (240 : Int32)) (pc := 0) C dX12_milesLeft_0 (by decide) ?_
  refine e_aload_n (pc := 3) C dX12_milesLeft_3 0 rfl rfl ?_
  obtain ⟨t1, hf⟩ := ck_e hf
  refine e_getr (pc := 4) 12 1 C dX12_milesLeft_4 (by decide) (by decide) g1402 rfl t1 ?_
  obtain ⟨b2, eb2, hf⟩ := ob_e hf
  refine e_rf eb2 ?_
  refine e_bipush (v := (10 : Int32)) (pc := 7) C dX12_milesLeft_7 (by decide) ?_
  obtain ⟨q3, hf⟩ := ck_e hf
  obtain ⟨n4, tn4, in4⟩ := ix_e q3
  refine e_iald (pc := 9) C dX12_milesLeft_9 tn4 in4 ?_
  refine e_isub (pc := 10) C dX12_milesLeft_10 ?_
  obtain rfl := so_e hf
  exact e_iret (pc := 11) C hr dX12_milesLeft_11 (Nat.le_of_ble_eq_true rfl) (Nat.le_of_ble_eq_true rfl)
theorem dX12_put_0 : decode cX12_put 0 = .ok (.bipush 24, 2) := by decide +kernel
theorem dX12_put_2 : decode cX12_put 2 = .ok (.istore_n 2, 1) := by decide +kernel
theorem dX12_put_3 : decode cX12_put 3 = .ok (.iload_n 2, 1) := by decide +kernel
theorem dX12_put_4 : decode cX12_put 4 = .ok (.ifCond .lt 32, 3) := by decide +kernel
theorem dX12_put_7 : decode cX12_put 7 = .ok (.aload_n 0, 1) := by decide +kernel
theorem dX12_put_8 : decode cX12_put 8 = .ok (.getfield 107, 3) := by decide +kernel
theorem dX12_put_11 : decode cX12_put 11 = .ok (.aload_n 0, 1) := by decide +kernel
theorem dX12_put_12 : decode cX12_put 12 = .ok (.getfield 210, 3) := by decide +kernel
theorem dX12_put_15 : decode cX12_put 15 = .ok (.iload_n 1, 1) := by decide +kernel
theorem dX12_put_16 : decode cX12_put 16 = .ok (.iload_n 2, 1) := by decide +kernel
theorem dX12_put_17 : decode cX12_put 17 = .ok (.ishr, 1) := by decide +kernel
theorem dX12_put_18 : decode cX12_put 18 = .ok (.i2b, 1) := by decide +kernel
theorem dX12_put_19 : decode cX12_put 19 = .ok (.bastore, 1) := by decide +kernel
theorem dX12_put_20 : decode cX12_put 20 = .ok (.aload_n 0, 1) := by decide +kernel
theorem dX12_put_21 : decode cX12_put 21 = .ok (.dup, 1) := by decide +kernel
theorem dX12_put_22 : decode cX12_put 22 = .ok (.getfield 210, 3) := by decide +kernel
theorem dX12_put_25 : decode cX12_put 25 = .ok (.iconst 1, 1) := by decide +kernel
theorem dX12_put_26 : decode cX12_put 26 = .ok (.iadd, 1) := by decide +kernel
theorem dX12_put_27 : decode cX12_put 27 = .ok (.putfield 210, 3) := by decide +kernel
theorem dX12_put_30 : decode cX12_put 30 = .ok (.iinc 2 (-8), 3) := by decide +kernel
theorem dX12_put_33 : decode cX12_put 33 = .ok (.goto (-30), 3) := by decide +kernel
theorem dX12_put_36 : decode cX12_put 36 = .ok (.return_, 1) := by decide +kernel
def F_X12_put_3 (G : GG) (v0 : Nat) (v1 : Int32) (self_3 : Int32 → AH → Option (AH)) (v2 : Int32) (h : AH) : Option (AH) :=
if v2 < 0 then (some h) else
ck (m_t h v0 = .inl 12) <|
ob (m_r h v0 42) fun b3 =>
ck (ixb h b3 .byte (m_i h v0 32) = true) <|
nn (m_si h b3 (m_i h v0 32).toNatClampNeg ((v1 >>> (v2 &&& 31)).toInt8.toInt32).toInt8.toInt32) fun h6 =>
nn (m_si h6 v0 32 ((m_i h6 v0 32) + (1 : Int32))) fun h7 =>
nn (v2 + (-8 : Int32)) fun x8 =>
self_3 x8 h7
def f_X12_put (G : GG) (v0 : Nat) (v1 : Int32) (h : AH) : Option (AH) :=
lq1 (F_X12_put_3 G v0 v1 ) bN (24 : Int32) h
set_option maxHeartbeats 4000000 in
set_option maxRecDepth 100000 in
theorem el_X12_put_3 {G : GG} {p : Program} {l : Launch} {e : Env} {s : State} {m : MethodId} {args : Array Value} {below : List Frame} {meth : Method} {c : Code} {y : AH} (C : Cx G cX12_put RX12 p s m args meth c) (hm : c.maxLocals = 3) (hr : meth.sig.returnType = none) (hin : meth.name = yX12_put.name) {v0 : Nat} {v1 : Int32}  :
    ∀ (n : Nat) (v2 : Int32) (h : AH), lq1 (F_X12_put_3 G v0 v1) n v2 h = some y → EE G p l e ({ frames := 0, cells := 0, slots := 0, locals := 0 } : Room) s m args below meth c (none, y) 0 0 3 [(0, .ref v0), (1, .int v1), (2, .int v2)] [] h 0 0 := by
  intro n
  induction n with
  | zero => intro v2 h hf; exact (no_e hf).elim
  | succ n ih_3 =>
    intro v2 h hf
    have hf : F_X12_put_3 G v0 v1 (lq1 (F_X12_put_3 G v0 v1) n) v2 h = some y := hf
    generalize lq1 (F_X12_put_3 G v0 v1) n = self_3 at hf ih_3
    unfold F_X12_put_3 at hf
    refine e_iload_n (pc := 3) C dX12_put_3 2 rfl rfl ?_
    rcases it_e hf with ⟨c1, hf⟩ | ⟨c1, hf⟩
    · refine e_if_lt (pc := 4) (tgt := 36) C dX12_put_4 (by decide) (fun _ => ?_) (fun q => absurd c1 q)
      obtain rfl := so_e hf
      exact e_vret (pc := 36) C hr dX12_put_36 (Nat.le_of_ble_eq_true rfl) (Nat.le_of_ble_eq_true rfl)
    · refine e_if_lt (pc := 4) (tgt := 36) C dX12_put_4 (by decide) (fun q => absurd q c1) (fun _ => ?_)
      refine e_aload_n (pc := 7) C dX12_put_7 0 rfl rfl ?_
      obtain ⟨t2, hf⟩ := ck_e hf
      refine e_getr (pc := 8) 12 42 C dX12_put_8 (by decide) (by decide) g1443 rfl t2 ?_
      obtain ⟨b3, eb3, hf⟩ := ob_e hf
      refine e_rf eb3 ?_
      refine e_aload_n (pc := 11) C dX12_put_11 0 rfl rfl ?_
      refine e_geti (pc := 12) 12 32 C dX12_put_12 (by decide) (by decide) g1433 rfl t2 ?_
      refine e_iload_n (pc := 15) C dX12_put_15 1 rfl rfl ?_
      refine e_iload_n (pc := 16) C dX12_put_16 2 rfl rfl ?_
      refine e_ishr (pc := 17) C dX12_put_17 ?_
      refine e_i2b (pc := 18) C dX12_put_18 ?_
      obtain ⟨q4, hf⟩ := ck_e hf
      obtain ⟨n5, tn5, in5⟩ := ix_e q4
      refine e_bast (pc := 19) C dX12_put_19 tn5 in5 ?_
      obtain ⟨h6, eh6, hf⟩ := nn_e hf
      refine e_hp eh6 ?_
      have uh6 : m_t h6 = m_t h := by rw [eh6]; exact rfl
      refine e_aload_n (pc := 20) C dX12_put_20 0 rfl rfl ?_
      refine e_dup (pc := 21) C dX12_put_21 rfl ?_
      refine e_geti (pc := 22) 12 32 C dX12_put_22 (by decide) (by decide) g1433 rfl (e_mt uh6 t2) ?_
      refine e_iconst (v := (1 : Int32)) (pc := 25) C dX12_put_25 (by decide) ?_
      refine e_iadd (pc := 26) C dX12_put_26 ?_
      refine e_puti (pc := 27) 12 32 C dX12_put_27 (by decide) (by decide) g1433 rfl rfl rfl rfl (e_mt uh6 t2) ?_
      obtain ⟨h7, eh7, hf⟩ := nn_e hf
      refine e_hp eh7 ?_
      have uh7 : m_t h7 = m_t h := by rw [eh7]; exact uh6
      obtain ⟨x8, ex8, hf⟩ := nn_e hf
      refine e_iinc (pc := 30) (v := x8) (lv2 := [(2, .int x8), (0, .ref v0), (1, .int v1)]) C hm dX12_put_30 2 rfl (by rw [ex8]; rfl) (by decide) rfl ?_
      refine e_goto (pc := 33) (tgt := 3) C dX12_put_33 (by decide) ?_
      refine e_lv (lv2 := [(0, .ref v0), (1, .int v1), (2, .int x8)]) [1, 2, 0] rfl ?_
      exact ih_3 x8 h7 hf
set_option maxHeartbeats 4000000 in
set_option maxRecDepth 100000 in
theorem ct_X12_put {G : GG} {l : Launch} {v0 : Nat} {v1 : Int32} {h : AH} {y : AH} (hf : f_X12_put G v0 v1 h = some y) : Ct G l yX12_put cX12_put 3 none 0 0 0 0 [.ref v0, .int v1] h (none, y) := by
  refine ct_of (by decide) (Nat.le_of_ble_eq_true rfl) ?_
  intro p e s m args below meth c C hm hr hin
  have C : Cx G cX12_put RX12 p s m args meth c := C
  refine e_lv (lv2 := [(0, .ref v0), (1, .int v1)]) [0, 1] rfl ?_
  unfold f_X12_put at hf
  refine e_bipush (v := (24 : Int32)) (pc := 0) C dX12_put_0 (by decide) ?_
  refine e_istore_n (pc := 2) (lv2 := [(2, .int (24 : Int32)), (0, .ref v0), (1, .int v1)]) C hm dX12_put_2 rfl (by decide) rfl ?_
  refine e_lv (lv2 := [(0, .ref v0), (1, .int v1), (2, .int (24 : Int32))]) [1, 2, 0] rfl ?_
  exact el_X12_put_3 C hm hr hin bN (24 : Int32) h hf
theorem dX12_feed_0 : decode cX12_feed 0 = .ok (.aload_n 0, 1) := by decide +kernel
theorem dX12_feed_1 : decode cX12_feed 1 = .ok (.getfield 210, 3) := by decide +kernel
theorem dX12_feed_4 : decode cX12_feed 4 = .ok (.bipush 20, 2) := by decide +kernel
theorem dX12_feed_6 : decode cX12_feed 6 = .ok (.iadd, 1) := by decide +kernel
theorem dX12_feed_7 : decode cX12_feed 7 = .ok (.sipush 400, 3) := by decide +kernel
theorem dX12_feed_10 : decode cX12_feed 10 = .ok (.if_icmp .le 5, 3) := by decide +kernel
theorem dX12_feed_13 : decode cX12_feed 13 = .ok (.iconst (-1), 1) := by decide +kernel
theorem dX12_feed_14 : decode cX12_feed 14 = .ok (.ireturn, 1) := by decide +kernel
theorem dX12_feed_15 : decode cX12_feed 15 = .ok (.aload_n 0, 1) := by decide +kernel
theorem dX12_feed_16 : decode cX12_feed 16 = .ok (.iload_n 1, 1) := by decide +kernel
theorem dX12_feed_17 : decode cX12_feed 17 = .ok (.invokevirtual 213, 3) := by decide +kernel
theorem dX12_feed_20 : decode cX12_feed 20 = .ok (.aload_n 0, 1) := by decide +kernel
theorem dX12_feed_21 : decode cX12_feed 21 = .ok (.iload_n 2, 1) := by decide +kernel
theorem dX12_feed_22 : decode cX12_feed 22 = .ok (.invokevirtual 213, 3) := by decide +kernel
theorem dX12_feed_25 : decode cX12_feed 25 = .ok (.aload_n 0, 1) := by decide +kernel
theorem dX12_feed_26 : decode cX12_feed 26 = .ok (.iload_n 3, 1) := by decide +kernel
theorem dX12_feed_27 : decode cX12_feed 27 = .ok (.invokevirtual 213, 3) := by decide +kernel
theorem dX12_feed_30 : decode cX12_feed 30 = .ok (.aload_n 0, 1) := by decide +kernel
theorem dX12_feed_31 : decode cX12_feed 31 = .ok (.iload 4, 2) := by decide +kernel
theorem dX12_feed_33 : decode cX12_feed 33 = .ok (.invokevirtual 213, 3) := by decide +kernel
theorem dX12_feed_36 : decode cX12_feed 36 = .ok (.aload_n 0, 1) := by decide +kernel
theorem dX12_feed_37 : decode cX12_feed 37 = .ok (.iload 5, 2) := by decide +kernel
theorem dX12_feed_39 : decode cX12_feed 39 = .ok (.invokevirtual 213, 3) := by decide +kernel
theorem dX12_feed_42 : decode cX12_feed 42 = .ok (.aload_n 0, 1) := by decide +kernel
theorem dX12_feed_43 : decode cX12_feed 43 = .ok (.getfield 210, 3) := by decide +kernel
theorem dX12_feed_46 : decode cX12_feed 46 = .ok (.ireturn, 1) := by decide +kernel
def f_X12_feed (G : GG) (v0 : Nat) (v1 : Int32) (v2 : Int32) (v3 : Int32) (v4 : Int32) (v5 : Int32) (h : AH) : Option (Int32 × AH) :=
ck (m_t h v0 = .inl 12) <|
if ((m_i h v0 32) + (20 : Int32)) ≤ (400 : Int32) then (ob (f_X12_put G v0 v1 h) fun h3 =>
ck (m_t h3 v0 = .inl 12) <|
ob (f_X12_put G v0 v2 h3) fun h6 =>
ck (m_t h6 v0 = .inl 12) <|
ob (f_X12_put G v0 v3 h6) fun h9 =>
ck (m_t h9 v0 = .inl 12) <|
ob (f_X12_put G v0 v4 h9) fun h12 =>
ck (m_t h12 v0 = .inl 12) <|
ob (f_X12_put G v0 v5 h12) fun h15 =>
ck (m_t h15 v0 = .inl 12) <|
some (m_i h15 v0 32, h15)) else
some ((-1 : Int32), h)
set_option maxHeartbeats 4000000 in
set_option maxRecDepth 100000 in
theorem ct_X12_feed {G : GG} {l : Launch} {v0 : Nat} {v1 : Int32} {v2 : Int32} {v3 : Int32} {v4 : Int32} {v5 : Int32} {h : AH} {y : Int32 × AH} (hf : f_X12_feed G v0 v1 v2 v3 v4 v5 h = some y) : Ct G l yX12_feed cX12_feed 6 (some .int) 1 22 0 0 [.ref v0, .int v1, .int v2, .int v3, .int v4, .int v5] h (some (.int y.1), y.2) := by
  refine ct_of (by decide) (Nat.le_of_ble_eq_true rfl) ?_
  intro p e s m args below meth c C hm hr hin
  have C : Cx G cX12_feed RX12 p s m args meth c := C
  refine e_lv (lv2 := [(0, .ref v0), (1, .int v1), (2, .int v2), (3, .int v3), (4, .int v4), (5, .int v5)]) [0, 1, 2, 3, 4, 5] rfl ?_
  unfold f_X12_feed at hf
  refine e_aload_n (pc := 0) C dX12_feed_0 0 rfl rfl ?_
  obtain ⟨t1, hf⟩ := ck_e hf
  refine e_geti (pc := 1) 12 32 C dX12_feed_1 (by decide) (by decide) g1433 rfl t1 ?_
  refine e_bipush (v := (20 : Int32)) (pc := 4) C dX12_feed_4 (by decide) ?_
  refine e_iadd (pc := 6) C dX12_feed_6 ?_
  refine e_sipush (v := (400 : Int32)) (pc := 7) C dX12_feed_7 (by decide) ?_
  rcases it_e hf with ⟨c2, hf⟩ | ⟨c2, hf⟩
  · refine e_icmp_le (pc := 10) (tgt := 15) C dX12_feed_10 (by decide) (fun _ => ?_) (fun q => absurd c2 q)
    refine e_aload_n (pc := 15) C dX12_feed_15 0 rfl rfl ?_
    refine e_iload_n (pc := 16) C dX12_feed_16 1 rfl rfl ?_
    obtain ⟨h3, y4, hf⟩ := ob_e hf
    refine e_callVv (pc := 17) (st := []) 12 C (ct_X12_put y4) dX12_feed_17 (by decide) t1 g1662 g1664 g55 g157 g1665 hd_X12_put rfl ⟨Nat.le_of_ble_eq_true rfl, Nat.le_of_ble_eq_true rfl⟩ ⟨Nat.le_of_ble_eq_true rfl, Nat.le_of_ble_eq_true rfl⟩ rfl (Nat.le_of_ble_eq_true rfl) ?_
    refine e_aload_n (pc := 20) C dX12_feed_20 0 rfl rfl ?_
    refine e_iload_n (pc := 21) C dX12_feed_21 2 rfl rfl ?_
    obtain ⟨t5, hf⟩ := ck_e hf
    obtain ⟨h6, y7, hf⟩ := ob_e hf
    refine e_callVv (pc := 22) (st := []) 12 C (ct_X12_put y7) dX12_feed_22 (by decide) t5 g1662 g1664 g55 g157 g1665 hd_X12_put rfl ⟨Nat.le_of_ble_eq_true rfl, Nat.le_of_ble_eq_true rfl⟩ ⟨Nat.le_of_ble_eq_true rfl, Nat.le_of_ble_eq_true rfl⟩ rfl (Nat.le_of_ble_eq_true rfl) ?_
    refine e_aload_n (pc := 25) C dX12_feed_25 0 rfl rfl ?_
    refine e_iload_n (pc := 26) C dX12_feed_26 3 rfl rfl ?_
    obtain ⟨t8, hf⟩ := ck_e hf
    obtain ⟨h9, y10, hf⟩ := ob_e hf
    refine e_callVv (pc := 27) (st := []) 12 C (ct_X12_put y10) dX12_feed_27 (by decide) t8 g1662 g1664 g55 g157 g1665 hd_X12_put rfl ⟨Nat.le_of_ble_eq_true rfl, Nat.le_of_ble_eq_true rfl⟩ ⟨Nat.le_of_ble_eq_true rfl, Nat.le_of_ble_eq_true rfl⟩ rfl (Nat.le_of_ble_eq_true rfl) ?_
    refine e_aload_n (pc := 30) C dX12_feed_30 0 rfl rfl ?_
    refine e_iload (pc := 31) C dX12_feed_31 4 rfl ?_
    obtain ⟨t11, hf⟩ := ck_e hf
    obtain ⟨h12, y13, hf⟩ := ob_e hf
    refine e_callVv (pc := 33) (st := []) 12 C (ct_X12_put y13) dX12_feed_33 (by decide) t11 g1662 g1664 g55 g157 g1665 hd_X12_put rfl ⟨Nat.le_of_ble_eq_true rfl, Nat.le_of_ble_eq_true rfl⟩ ⟨Nat.le_of_ble_eq_true rfl, Nat.le_of_ble_eq_true rfl⟩ rfl (Nat.le_of_ble_eq_true rfl) ?_
    refine e_aload_n (pc := 36) C dX12_feed_36 0 rfl rfl ?_
    refine e_iload (pc := 37) C dX12_feed_37 5 rfl ?_
    obtain ⟨t14, hf⟩ := ck_e hf
    obtain ⟨h15, y16, hf⟩ := ob_e hf
    refine e_callVv (pc := 39) (st := []) 12 C (ct_X12_put y16) dX12_feed_39 (by decide) t14 g1662 g1664 g55 g157 g1665 hd_X12_put rfl ⟨Nat.le_of_ble_eq_true rfl, Nat.le_of_ble_eq_true rfl⟩ ⟨Nat.le_of_ble_eq_true rfl, Nat.le_of_ble_eq_true rfl⟩ rfl (Nat.le_of_ble_eq_true rfl) ?_
    refine e_aload_n (pc := 42) C dX12_feed_42 0 rfl rfl ?_
    obtain ⟨t17, hf⟩ := ck_e hf
    refine e_geti (pc := 43) 12 32 C dX12_feed_43 (by decide) (by decide) g1433 rfl t17 ?_
    obtain rfl := so_e hf
    exact e_iret (pc := 46) C hr dX12_feed_46 (Nat.le_of_ble_eq_true rfl) (Nat.le_of_ble_eq_true rfl)
  · refine e_icmp_le (pc := 10) (tgt := 15) C dX12_feed_10 (by decide) (fun q => absurd q c2) (fun _ => ?_)
    refine e_iconst (v := (-1 : Int32)) (pc := 13) C dX12_feed_13 (by decide) ?_
    obtain rfl := so_e hf
    exact e_iret (pc := 14) C hr dX12_feed_14 (Nat.le_of_ble_eq_true rfl) (Nat.le_of_ble_eq_true rfl)
theorem dX12_end_0 : decode cX12_end 0 = .ok (.iload_n 1, 1) := by decide +kernel
theorem dX12_end_1 : decode cX12_end 1 = .ok (.ifCond .lt 11, 3) := by decide +kernel
theorem dX12_end_4 : decode cX12_end 4 = .ok (.iload_n 1, 1) := by decide +kernel
theorem dX12_end_5 : decode cX12_end 5 = .ok (.aload_n 0, 1) := by decide +kernel
theorem dX12_end_6 : decode cX12_end 6 = .ok (.getfield 210, 3) := by decide +kernel
theorem dX12_end_9 : decode cX12_end 9 = .ok (.if_icmp .le 5, 3) := by decide +kernel
theorem dX12_end_12 : decode cX12_end 12 = .ok (.iconst (-1), 1) := by decide +kernel
theorem dX12_end_13 : decode cX12_end 13 = .ok (.ireturn, 1) := by decide +kernel
theorem dX12_end_14 : decode cX12_end 14 = .ok (.aload_n 0, 1) := by decide +kernel
theorem dX12_end_15 : decode cX12_end 15 = .ok (.iload_n 1, 1) := by decide +kernel
theorem dX12_end_16 : decode cX12_end 16 = .ok (.putfield 210, 3) := by decide +kernel
theorem dX12_end_19 : decode cX12_end 19 = .ok (.iload_n 1, 1) := by decide +kernel
theorem dX12_end_20 : decode cX12_end 20 = .ok (.ireturn, 1) := by decide +kernel
def f_X12_end (G : GG) (v0 : Nat) (v1 : Int32) (h : AH) : Option (Int32 × AH) :=
if v1 < 0 then (some ((-1 : Int32), h)) else
ck (m_t h v0 = .inl 12) <|
if v1 ≤ (m_i h v0 32) then (nn (m_si h v0 32 v1) fun h4 =>
some (v1, h4)) else
some ((-1 : Int32), h)
set_option maxHeartbeats 4000000 in
set_option maxRecDepth 100000 in
theorem ct_X12_end {G : GG} {l : Launch} {v0 : Nat} {v1 : Int32} {h : AH} {y : Int32 × AH} (hf : f_X12_end G v0 v1 h = some y) : Ct G l yX12_end cX12_end 2 (some .int) 0 0 0 0 [.ref v0, .int v1] h (some (.int y.1), y.2) := by
  refine ct_of (by decide) (Nat.le_of_ble_eq_true rfl) ?_
  intro p e s m args below meth c C hm hr hin
  have C : Cx G cX12_end RX12 p s m args meth c := C
  refine e_lv (lv2 := [(0, .ref v0), (1, .int v1)]) [0, 1] rfl ?_
  unfold f_X12_end at hf
  refine e_iload_n (pc := 0) C dX12_end_0 1 rfl rfl ?_
  rcases it_e hf with ⟨c1, hf⟩ | ⟨c1, hf⟩
  · refine e_if_lt (pc := 1) (tgt := 12) C dX12_end_1 (by decide) (fun _ => ?_) (fun q => absurd c1 q)
    refine e_iconst (v := (-1 : Int32)) (pc := 12) C dX12_end_12 (by decide) ?_
    obtain rfl := so_e hf
    exact e_iret (pc := 13) C hr dX12_end_13 (Nat.le_of_ble_eq_true rfl) (Nat.le_of_ble_eq_true rfl)
  · refine e_if_lt (pc := 1) (tgt := 12) C dX12_end_1 (by decide) (fun q => absurd q c1) (fun _ => ?_)
    refine e_iload_n (pc := 4) C dX12_end_4 1 rfl rfl ?_
    refine e_aload_n (pc := 5) C dX12_end_5 0 rfl rfl ?_
    obtain ⟨t2, hf⟩ := ck_e hf
    refine e_geti (pc := 6) 12 32 C dX12_end_6 (by decide) (by decide) g1433 rfl t2 ?_
    rcases it_e hf with ⟨c3, hf⟩ | ⟨c3, hf⟩
    · refine e_icmp_le (pc := 9) (tgt := 14) C dX12_end_9 (by decide) (fun _ => ?_) (fun q => absurd c3 q)
      refine e_aload_n (pc := 14) C dX12_end_14 0 rfl rfl ?_
      refine e_iload_n (pc := 15) C dX12_end_15 1 rfl rfl ?_
      refine e_puti (pc := 16) 12 32 C dX12_end_16 (by decide) (by decide) g1433 rfl rfl rfl rfl t2 ?_
      obtain ⟨h4, eh4, hf⟩ := nn_e hf
      refine e_hp eh4 ?_
      have uh4 : m_t h4 = m_t h := by rw [eh4]; exact rfl
      refine e_iload_n (pc := 19) C dX12_end_19 1 rfl rfl ?_
      obtain rfl := so_e hf
      exact e_iret (pc := 20) C hr dX12_end_20 (Nat.le_of_ble_eq_true rfl) (Nat.le_of_ble_eq_true rfl)
    · refine e_icmp_le (pc := 9) (tgt := 14) C dX12_end_9 (by decide) (fun q => absurd q c3) (fun _ => ?_)
      refine e_iconst (v := (-1 : Int32)) (pc := 12) C dX12_end_12 (by decide) ?_
      obtain rfl := so_e hf
      exact e_iret (pc := 13) C hr dX12_end_13 (Nat.le_of_ble_eq_true rfl) (Nat.le_of_ble_eq_true rfl)
theorem dX12_wordOf_0 : decode cX12_wordOf 0 = .ok (.iload_n 0, 1) := by decide +kernel
theorem dX12_wordOf_1 : decode cX12_wordOf 1 = .ok (.tableswitch 99 0 11 #[63, 66, 69, 72, 75, 78, 81, 84, 87, 90, 93, 96], 63) := by decide +kernel
theorem dX12_wordOf_64 : decode cX12_wordOf 64 = .ok (.ldc 217, 2) := by decide +kernel
theorem dX12_wordOf_66 : decode cX12_wordOf 66 = .ok (.areturn, 1) := by decide +kernel
theorem dX12_wordOf_67 : decode cX12_wordOf 67 = .ok (.ldc 219, 2) := by decide +kernel
theorem dX12_wordOf_69 : decode cX12_wordOf 69 = .ok (.areturn, 1) := by decide +kernel
theorem dX12_wordOf_70 : decode cX12_wordOf 70 = .ok (.ldc 221, 2) := by decide +kernel
theorem dX12_wordOf_72 : decode cX12_wordOf 72 = .ok (.areturn, 1) := by decide +kernel
theorem dX12_wordOf_73 : decode cX12_wordOf 73 = .ok (.ldc 223, 2) := by decide +kernel
theorem dX12_wordOf_75 : decode cX12_wordOf 75 = .ok (.areturn, 1) := by decide +kernel
theorem dX12_wordOf_76 : decode cX12_wordOf 76 = .ok (.ldc 225, 2) := by decide +kernel
theorem dX12_wordOf_78 : decode cX12_wordOf 78 = .ok (.areturn, 1) := by decide +kernel
theorem dX12_wordOf_79 : decode cX12_wordOf 79 = .ok (.ldc 227, 2) := by decide +kernel
theorem dX12_wordOf_81 : decode cX12_wordOf 81 = .ok (.areturn, 1) := by decide +kernel
theorem dX12_wordOf_82 : decode cX12_wordOf 82 = .ok (.ldc 229, 2) := by decide +kernel
theorem dX12_wordOf_84 : decode cX12_wordOf 84 = .ok (.areturn, 1) := by decide +kernel
theorem dX12_wordOf_85 : decode cX12_wordOf 85 = .ok (.ldc 231, 2) := by decide +kernel
theorem dX12_wordOf_87 : decode cX12_wordOf 87 = .ok (.areturn, 1) := by decide +kernel
theorem dX12_wordOf_88 : decode cX12_wordOf 88 = .ok (.ldc 233, 2) := by decide +kernel
theorem dX12_wordOf_90 : decode cX12_wordOf 90 = .ok (.areturn, 1) := by decide +kernel
theorem dX12_wordOf_91 : decode cX12_wordOf 91 = .ok (.ldc 235, 2) := by decide +kernel
theorem dX12_wordOf_93 : decode cX12_wordOf 93 = .ok (.areturn, 1) := by decide +kernel
theorem dX12_wordOf_94 : decode cX12_wordOf 94 = .ok (.ldc 237, 2) := by decide +kernel
theorem dX12_wordOf_96 : decode cX12_wordOf 96 = .ok (.areturn, 1) := by decide +kernel
theorem dX12_wordOf_97 : decode cX12_wordOf 97 = .ok (.ldc 239, 2) := by decide +kernel
theorem dX12_wordOf_99 : decode cX12_wordOf 99 = .ok (.areturn, 1) := by decide +kernel
theorem dX12_wordOf_100 : decode cX12_wordOf 100 = .ok (.ldc 241, 2) := by decide +kernel
theorem dX12_wordOf_102 : decode cX12_wordOf 102 = .ok (.areturn, 1) := by decide +kernel
def f_X12_wordOf (G : GG) (v0 : Int32) (h : AH) : Option (Nat × AH) :=
if v0 = (0 : Int32) then (some ((G.2.2.2.1 3), h)) else
if v0 = (1 : Int32) then (some ((G.2.2.2.1 10), h)) else
if v0 = (2 : Int32) then (some ((G.2.2.2.1 11), h)) else
if v0 = (3 : Int32) then (some ((G.2.2.2.1 7), h)) else
if v0 = (4 : Int32) then (some ((G.2.2.2.1 12), h)) else
if v0 = (5 : Int32) then (some ((G.2.2.2.1 13), h)) else
if v0 = (6 : Int32) then (some ((G.2.2.2.1 14), h)) else
if v0 = (7 : Int32) then (some ((G.2.2.2.1 15), h)) else
if v0 = (8 : Int32) then (some ((G.2.2.2.1 16), h)) else
if v0 = (9 : Int32) then (some ((G.2.2.2.1 17), h)) else
if v0 = (10 : Int32) then (some ((G.2.2.2.1 18), h)) else
if v0 = (11 : Int32) then (some ((G.2.2.2.1 19), h)) else
some ((G.2.2.2.1 20), h)
set_option maxHeartbeats 4000000 in
set_option maxRecDepth 100000 in
theorem ct_X12_wordOf {G : GG} {l : Launch} {v0 : Int32} {h : AH} {y : Nat × AH} (hf : f_X12_wordOf G v0 h = some y) : Ct G l yX12_wordOf cX12_wordOf 1 (some (.object "java/lang/String")) 0 0 0 0 [.int v0] h (some (.ref y.1), y.2) := by
  refine ct_of (by decide) (Nat.le_of_ble_eq_true rfl) ?_
  intro p e s m args below meth c C hm hr hin
  have C : Cx G cX12_wordOf RX12 p s m args meth c := C
  refine e_lv (lv2 := [(0, .int v0)]) [0] rfl ?_
  unfold f_X12_wordOf at hf
  refine e_iload_n (pc := 0) C dX12_wordOf_0 0 rfl rfl ?_
  rcases it_e hf with ⟨c1, hf⟩ | ⟨c1, hf⟩
  · refine e_tabK (pc := 1) (tgt := 64) (0 : Int32) c1 C dX12_wordOf_1 (by decide) (by decide) rfl (by decide) ?_
    refine e_ldcS (pc := 64) C dX12_wordOf_64 3 rfl ?_
    obtain rfl := so_e hf
    exact e_aret (pc := 66) (r := some ((G.2.2.2.1 3))) C hr (by simp) dX12_wordOf_66 (Nat.le_of_ble_eq_true rfl) (Nat.le_of_ble_eq_true rfl)
  rcases it_e hf with ⟨c2, hf⟩ | ⟨c2, hf⟩
  · refine e_tabK (pc := 1) (tgt := 67) (1 : Int32) c2 C dX12_wordOf_1 (by decide) (by decide) rfl (by decide) ?_
    refine e_ldcS (pc := 67) C dX12_wordOf_67 10 rfl ?_
    obtain rfl := so_e hf
    exact e_aret (pc := 69) (r := some ((G.2.2.2.1 10))) C hr (by simp) dX12_wordOf_69 (Nat.le_of_ble_eq_true rfl) (Nat.le_of_ble_eq_true rfl)
  rcases it_e hf with ⟨c3, hf⟩ | ⟨c3, hf⟩
  · refine e_tabK (pc := 1) (tgt := 70) (2 : Int32) c3 C dX12_wordOf_1 (by decide) (by decide) rfl (by decide) ?_
    refine e_ldcS (pc := 70) C dX12_wordOf_70 11 rfl ?_
    obtain rfl := so_e hf
    exact e_aret (pc := 72) (r := some ((G.2.2.2.1 11))) C hr (by simp) dX12_wordOf_72 (Nat.le_of_ble_eq_true rfl) (Nat.le_of_ble_eq_true rfl)
  rcases it_e hf with ⟨c4, hf⟩ | ⟨c4, hf⟩
  · refine e_tabK (pc := 1) (tgt := 73) (3 : Int32) c4 C dX12_wordOf_1 (by decide) (by decide) rfl (by decide) ?_
    refine e_ldcS (pc := 73) C dX12_wordOf_73 7 rfl ?_
    obtain rfl := so_e hf
    exact e_aret (pc := 75) (r := some ((G.2.2.2.1 7))) C hr (by simp) dX12_wordOf_75 (Nat.le_of_ble_eq_true rfl) (Nat.le_of_ble_eq_true rfl)
  rcases it_e hf with ⟨c5, hf⟩ | ⟨c5, hf⟩
  · refine e_tabK (pc := 1) (tgt := 76) (4 : Int32) c5 C dX12_wordOf_1 (by decide) (by decide) rfl (by decide) ?_
    refine e_ldcS (pc := 76) C dX12_wordOf_76 12 rfl ?_
    obtain rfl := so_e hf
    exact e_aret (pc := 78) (r := some ((G.2.2.2.1 12))) C hr (by simp) dX12_wordOf_78 (Nat.le_of_ble_eq_true rfl) (Nat.le_of_ble_eq_true rfl)
  rcases it_e hf with ⟨c6, hf⟩ | ⟨c6, hf⟩
  · refine e_tabK (pc := 1) (tgt := 79) (5 : Int32) c6 C dX12_wordOf_1 (by decide) (by decide) rfl (by decide) ?_
    refine e_ldcS (pc := 79) C dX12_wordOf_79 13 rfl ?_
    obtain rfl := so_e hf
    exact e_aret (pc := 81) (r := some ((G.2.2.2.1 13))) C hr (by simp) dX12_wordOf_81 (Nat.le_of_ble_eq_true rfl) (Nat.le_of_ble_eq_true rfl)
  rcases it_e hf with ⟨c7, hf⟩ | ⟨c7, hf⟩
  · refine e_tabK (pc := 1) (tgt := 82) (6 : Int32) c7 C dX12_wordOf_1 (by decide) (by decide) rfl (by decide) ?_
    refine e_ldcS (pc := 82) C dX12_wordOf_82 14 rfl ?_
    obtain rfl := so_e hf
    exact e_aret (pc := 84) (r := some ((G.2.2.2.1 14))) C hr (by simp) dX12_wordOf_84 (Nat.le_of_ble_eq_true rfl) (Nat.le_of_ble_eq_true rfl)
  rcases it_e hf with ⟨c8, hf⟩ | ⟨c8, hf⟩
  · refine e_tabK (pc := 1) (tgt := 85) (7 : Int32) c8 C dX12_wordOf_1 (by decide) (by decide) rfl (by decide) ?_
    refine e_ldcS (pc := 85) C dX12_wordOf_85 15 rfl ?_
    obtain rfl := so_e hf
    exact e_aret (pc := 87) (r := some ((G.2.2.2.1 15))) C hr (by simp) dX12_wordOf_87 (Nat.le_of_ble_eq_true rfl) (Nat.le_of_ble_eq_true rfl)
  rcases it_e hf with ⟨c9, hf⟩ | ⟨c9, hf⟩
  · refine e_tabK (pc := 1) (tgt := 88) (8 : Int32) c9 C dX12_wordOf_1 (by decide) (by decide) rfl (by decide) ?_
    refine e_ldcS (pc := 88) C dX12_wordOf_88 16 rfl ?_
    obtain rfl := so_e hf
    exact e_aret (pc := 90) (r := some ((G.2.2.2.1 16))) C hr (by simp) dX12_wordOf_90 (Nat.le_of_ble_eq_true rfl) (Nat.le_of_ble_eq_true rfl)
  rcases it_e hf with ⟨c10, hf⟩ | ⟨c10, hf⟩
  · refine e_tabK (pc := 1) (tgt := 91) (9 : Int32) c10 C dX12_wordOf_1 (by decide) (by decide) rfl (by decide) ?_
    refine e_ldcS (pc := 91) C dX12_wordOf_91 17 rfl ?_
    obtain rfl := so_e hf
    exact e_aret (pc := 93) (r := some ((G.2.2.2.1 17))) C hr (by simp) dX12_wordOf_93 (Nat.le_of_ble_eq_true rfl) (Nat.le_of_ble_eq_true rfl)
  rcases it_e hf with ⟨c11, hf⟩ | ⟨c11, hf⟩
  · refine e_tabK (pc := 1) (tgt := 94) (10 : Int32) c11 C dX12_wordOf_1 (by decide) (by decide) rfl (by decide) ?_
    refine e_ldcS (pc := 94) C dX12_wordOf_94 18 rfl ?_
    obtain rfl := so_e hf
    exact e_aret (pc := 96) (r := some ((G.2.2.2.1 18))) C hr (by simp) dX12_wordOf_96 (Nat.le_of_ble_eq_true rfl) (Nat.le_of_ble_eq_true rfl)
  rcases it_e hf with ⟨c12, hf⟩ | ⟨c12, hf⟩
  · refine e_tabK (pc := 1) (tgt := 97) (11 : Int32) c12 C dX12_wordOf_1 (by decide) (by decide) rfl (by decide) ?_
    refine e_ldcS (pc := 97) C dX12_wordOf_97 19 rfl ?_
    obtain rfl := so_e hf
    exact e_aret (pc := 99) (r := some ((G.2.2.2.1 19))) C hr (by simp) dX12_wordOf_99 (Nat.le_of_ble_eq_true rfl) (Nat.le_of_ble_eq_true rfl)
  refine e_tabOut (pc := 1) (tgt := 100) C dX12_wordOf_1 (by have g0 := i_ne 0 (by decide) c1; have g1 := i_ne 1 (by decide) c2; have g2 := i_ne 2 (by decide) c3; have g3 := i_ne 3 (by decide) c4; have g4 := i_ne 4 (by decide) c5; have g5 := i_ne 5 (by decide) c6; have g6 := i_ne 6 (by decide) c7; have g7 := i_ne 7 (by decide) c8; have g8 := i_ne 8 (by decide) c9; have g9 := i_ne 9 (by decide) c10; have g10 := i_ne 10 (by decide) c11; have g11 := i_ne 11 (by decide) c12; omega) (by decide) ?_
  refine e_ldcS (pc := 100) C dX12_wordOf_100 20 rfl ?_
  obtain rfl := so_e hf
  exact e_aret (pc := 102) (r := some ((G.2.2.2.1 20))) C hr (by simp) dX12_wordOf_102 (Nat.le_of_ble_eq_true rfl) (Nat.le_of_ble_eq_true rfl)
theorem dX12_fails_0 : decode cX12_fails 0 = .ok (.aload_n 0, 1) := by decide +kernel
theorem dX12_fails_1 : decode cX12_fails 1 = .ok (.aload_n 0, 1) := by decide +kernel
theorem dX12_fails_2 : decode cX12_fails 2 = .ok (.getfield 243, 3) := by decide +kernel
theorem dX12_fails_5 : decode cX12_fails 5 = .ok (.ifCond .ne 14, 3) := by decide +kernel
theorem dX12_fails_8 : decode cX12_fails 8 = .ok (.iconst 1, 1) := by decide +kernel
theorem dX12_fails_9 : decode cX12_fails 9 = .ok (.bipush 8, 2) := by decide +kernel
theorem dX12_fails_11 : decode cX12_fails 11 = .ok (.iload_n 2, 1) := by decide +kernel
theorem dX12_fails_12 : decode cX12_fails 12 = .ok (.imul, 1) := by decide +kernel
theorem dX12_fails_13 : decode cX12_fails 13 = .ok (.iadd, 1) := by decide +kernel
theorem dX12_fails_14 : decode cX12_fails 14 = .ok (.iload_n 1, 1) := by decide +kernel
theorem dX12_fails_15 : decode cX12_fails 15 = .ok (.iadd, 1) := by decide +kernel
theorem dX12_fails_16 : decode cX12_fails 16 = .ok (.goto 7, 3) := by decide +kernel
theorem dX12_fails_19 : decode cX12_fails 19 = .ok (.aload_n 0, 1) := by decide +kernel
theorem dX12_fails_20 : decode cX12_fails 20 = .ok (.getfield 243, 3) := by decide +kernel
theorem dX12_fails_23 : decode cX12_fails 23 = .ok (.putfield 243, 3) := by decide +kernel
theorem dX12_fails_26 : decode cX12_fails 26 = .ok (.return_, 1) := by decide +kernel
def f_X12_fails (G : GG) (v0 : Nat) (v1 : Int32) (v2 : Int32) (h : AH) : Option (AH) :=
ck (m_t h v0 = .inl 12) <|
if (m_i h v0 34) = 0 then (nn (m_si h v0 34 (((1 : Int32) + ((8 : Int32) * v2)) + v1)) fun h3 =>
some h3) else
nn (m_si h v0 34 (m_i h v0 34)) fun h4 =>
some h4
set_option maxHeartbeats 4000000 in
set_option maxRecDepth 100000 in
theorem ct_X12_fails {G : GG} {l : Launch} {v0 : Nat} {v1 : Int32} {v2 : Int32} {h : AH} {y : AH} (hf : f_X12_fails G v0 v1 v2 h = some y) : Ct G l yX12_fails cX12_fails 3 none 0 0 0 0 [.ref v0, .int v1, .int v2] h (none, y) := by
  refine ct_of (by decide) (Nat.le_of_ble_eq_true rfl) ?_
  intro p e s m args below meth c C hm hr hin
  have C : Cx G cX12_fails RX12 p s m args meth c := C
  refine e_lv (lv2 := [(0, .ref v0), (1, .int v1), (2, .int v2)]) [0, 1, 2] rfl ?_
  unfold f_X12_fails at hf
  refine e_aload_n (pc := 0) C dX12_fails_0 0 rfl rfl ?_
  refine e_aload_n (pc := 1) C dX12_fails_1 0 rfl rfl ?_
  obtain ⟨t1, hf⟩ := ck_e hf
  refine e_geti (pc := 2) 12 34 C dX12_fails_2 (by decide) (by decide) g1435 rfl t1 ?_
  rcases it_e hf with ⟨c2, hf⟩ | ⟨c2, hf⟩
  · refine e_if_ne (pc := 5) (tgt := 19) C dX12_fails_5 (by decide) (fun q => absurd c2 q) (fun _ => ?_)
    refine e_iconst (v := (1 : Int32)) (pc := 8) C dX12_fails_8 (by decide) ?_
    refine e_bipush (v := (8 : Int32)) (pc := 9) C dX12_fails_9 (by decide) ?_
    refine e_iload_n (pc := 11) C dX12_fails_11 2 rfl rfl ?_
    refine e_imul (pc := 12) C dX12_fails_12 ?_
    refine e_iadd (pc := 13) C dX12_fails_13 ?_
    refine e_iload_n (pc := 14) C dX12_fails_14 1 rfl rfl ?_
    refine e_iadd (pc := 15) C dX12_fails_15 ?_
    refine e_goto (pc := 16) (tgt := 23) C dX12_fails_16 (by decide) ?_
    refine e_puti (pc := 23) 12 34 C dX12_fails_23 (by decide) (by decide) g1435 rfl rfl rfl rfl t1 ?_
    obtain ⟨h3, eh3, hf⟩ := nn_e hf
    refine e_hp eh3 ?_
    have uh3 : m_t h3 = m_t h := by rw [eh3]; exact rfl
    obtain rfl := so_e hf
    exact e_vret (pc := 26) C hr dX12_fails_26 (Nat.le_of_ble_eq_true rfl) (Nat.le_of_ble_eq_true rfl)
  · refine e_if_ne (pc := 5) (tgt := 19) C dX12_fails_5 (by decide) (fun _ => ?_) (fun q => absurd q c2)
    refine e_aload_n (pc := 19) C dX12_fails_19 0 rfl rfl ?_
    refine e_geti (pc := 20) 12 34 C dX12_fails_20 (by decide) (by decide) g1435 rfl t1 ?_
    refine e_puti (pc := 23) 12 34 C dX12_fails_23 (by decide) (by decide) g1435 rfl rfl rfl rfl t1 ?_
    obtain ⟨h4, eh4, hf⟩ := nn_e hf
    refine e_hp eh4 ?_
    have uh4 : m_t h4 = m_t h := by rw [eh4]; exact rfl
    obtain rfl := so_e hf
    exact e_vret (pc := 26) C hr dX12_fails_26 (Nat.le_of_ble_eq_true rfl) (Nat.le_of_ble_eq_true rfl)
theorem dX12_sign_0 : decode cX12_sign 0 = .ok (.aload_n 0, 1) := by decide +kernel
theorem dX12_sign_1 : decode cX12_sign 1 = .ok (.getfield 246, 3) := by decide +kernel
theorem dX12_sign_4 : decode cX12_sign 4 = .ok (.aload_n 0, 1) := by decide +kernel
theorem dX12_sign_5 : decode cX12_sign 5 = .ok (.getfield 210, 3) := by decide +kernel
theorem dX12_sign_8 : decode cX12_sign 8 = .ok (.if_icmp .ge 19, 3) := by decide +kernel
theorem dX12_sign_11 : decode cX12_sign 11 = .ok (.aload_n 0, 1) := by decide +kernel
theorem dX12_sign_12 : decode cX12_sign 12 = .ok (.getfield 107, 3) := by decide +kernel
theorem dX12_sign_15 : decode cX12_sign 15 = .ok (.aload_n 0, 1) := by decide +kernel
theorem dX12_sign_16 : decode cX12_sign 16 = .ok (.getfield 246, 3) := by decide +kernel
theorem dX12_sign_19 : decode cX12_sign 19 = .ok (.baload, 1) := by decide +kernel
theorem dX12_sign_20 : decode cX12_sign 20 = .ok (.sipush 255, 3) := by decide +kernel
theorem dX12_sign_23 : decode cX12_sign 23 = .ok (.iand, 1) := by decide +kernel
theorem dX12_sign_24 : decode cX12_sign 24 = .ok (.goto 4, 3) := by decide +kernel
theorem dX12_sign_27 : decode cX12_sign 27 = .ok (.iconst (-1), 1) := by decide +kernel
theorem dX12_sign_28 : decode cX12_sign 28 = .ok (.ireturn, 1) := by decide +kernel
def f_X12_sign (G : GG) (v0 : Nat) (h : AH) : Option (Int32 × AH) :=
ck (m_t h v0 = .inl 12) <|
if (m_i h v0 32) ≤ (m_i h v0 33) then (some ((-1 : Int32), h)) else
ob (m_r h v0 42) fun b3 =>
ck (ixb h b3 .byte (m_i h v0 33) = true) <|
some ((m_i h b3 (m_i h v0 33).toNatClampNeg) &&& (255 : Int32), h)
set_option maxHeartbeats 4000000 in
set_option maxRecDepth 100000 in
theorem ct_X12_sign {G : GG} {l : Launch} {v0 : Nat} {h : AH} {y : Int32 × AH} (hf : f_X12_sign G v0 h = some y) : Ct G l yX12_sign cX12_sign 1 (some .int) 0 0 0 0 [.ref v0] h (some (.int y.1), y.2) := by
  refine ct_of (by decide) (Nat.le_of_ble_eq_true rfl) ?_
  intro p e s m args below meth c C hm hr hin
  have C : Cx G cX12_sign RX12 p s m args meth c := C
  refine e_lv (lv2 := [(0, .ref v0)]) [0] rfl ?_
  unfold f_X12_sign at hf
  refine e_aload_n (pc := 0) C dX12_sign_0 0 rfl rfl ?_
  obtain ⟨t1, hf⟩ := ck_e hf
  refine e_geti (pc := 1) 12 33 C dX12_sign_1 (by decide) (by decide) g1434 rfl t1 ?_
  refine e_aload_n (pc := 4) C dX12_sign_4 0 rfl rfl ?_
  refine e_geti (pc := 5) 12 32 C dX12_sign_5 (by decide) (by decide) g1433 rfl t1 ?_
  rcases it_e hf with ⟨c2, hf⟩ | ⟨c2, hf⟩
  · refine e_icmp_ge (pc := 8) (tgt := 27) C dX12_sign_8 (by decide) (fun _ => ?_) (fun q => absurd c2 q)
    refine e_iconst (v := (-1 : Int32)) (pc := 27) C dX12_sign_27 (by decide) ?_
    obtain rfl := so_e hf
    exact e_iret (pc := 28) C hr dX12_sign_28 (Nat.le_of_ble_eq_true rfl) (Nat.le_of_ble_eq_true rfl)
  · refine e_icmp_ge (pc := 8) (tgt := 27) C dX12_sign_8 (by decide) (fun q => absurd q c2) (fun _ => ?_)
    refine e_aload_n (pc := 11) C dX12_sign_11 0 rfl rfl ?_
    refine e_getr (pc := 12) 12 42 C dX12_sign_12 (by decide) (by decide) g1443 rfl t1 ?_
    obtain ⟨b3, eb3, hf⟩ := ob_e hf
    refine e_rf eb3 ?_
    refine e_aload_n (pc := 15) C dX12_sign_15 0 rfl rfl ?_
    refine e_geti (pc := 16) 12 33 C dX12_sign_16 (by decide) (by decide) g1434 rfl t1 ?_
    obtain ⟨q4, hf⟩ := ck_e hf
    obtain ⟨n5, tn5, in5⟩ := ix_e q4
    refine e_bald (pc := 19) C dX12_sign_19 tn5 in5 ?_
    refine e_sipush (v := (255 : Int32)) (pc := 20) C dX12_sign_20 (by decide) ?_
    refine e_iand (pc := 23) C dX12_sign_23 ?_
    refine e_goto (pc := 24) (tgt := 28) C dX12_sign_24 (by decide) ?_
    obtain rfl := so_e hf
    exact e_iret (pc := 28) C hr dX12_sign_28 (Nat.le_of_ble_eq_true rfl) (Nat.le_of_ble_eq_true rfl)
theorem dX12_blanks_0 : decode cX12_blanks 0 = .ok (.aload_n 0, 1) := by decide +kernel
theorem dX12_blanks_1 : decode cX12_blanks 1 = .ok (.invokevirtual 249, 3) := by decide +kernel
theorem dX12_blanks_4 : decode cX12_blanks 4 = .ok (.bipush 32, 2) := by decide +kernel
theorem dX12_blanks_6 : decode cX12_blanks 6 = .ok (.if_icmp .ne 16, 3) := by decide +kernel
theorem dX12_blanks_9 : decode cX12_blanks 9 = .ok (.aload_n 0, 1) := by decide +kernel
theorem dX12_blanks_10 : decode cX12_blanks 10 = .ok (.dup, 1) := by decide +kernel
theorem dX12_blanks_11 : decode cX12_blanks 11 = .ok (.getfield 246, 3) := by decide +kernel
theorem dX12_blanks_14 : decode cX12_blanks 14 = .ok (.iconst 1, 1) := by decide +kernel
theorem dX12_blanks_15 : decode cX12_blanks 15 = .ok (.iadd, 1) := by decide +kernel
theorem dX12_blanks_16 : decode cX12_blanks 16 = .ok (.putfield 246, 3) := by decide +kernel
theorem dX12_blanks_19 : decode cX12_blanks 19 = .ok (.goto (-19), 3) := by decide +kernel
theorem dX12_blanks_22 : decode cX12_blanks 22 = .ok (.return_, 1) := by decide +kernel
def F_X12_blanks_0 (G : GG) (v0 : Nat) (self_0 : AH → Option (AH)) (h : AH) : Option (AH) :=
ck (m_t h v0 = .inl 12) <|
cb (f_X12_sign G v0 h) fun r4 h2 =>
if r4 = (32 : Int32) then (ck (m_t h2 v0 = .inl 12) <|
nn (m_si h2 v0 33 ((m_i h2 v0 33) + (1 : Int32))) fun h7 =>
self_0 h7) else
some h2
def f_X12_blanks (G : GG) (v0 : Nat) (h : AH) : Option (AH) :=
lq0 (F_X12_blanks_0 G v0 ) bN h
set_option maxHeartbeats 4000000 in
set_option maxRecDepth 100000 in
theorem el_X12_blanks_0 {G : GG} {p : Program} {l : Launch} {e : Env} {s : State} {m : MethodId} {args : Array Value} {below : List Frame} {meth : Method} {c : Code} {y : AH} (C : Cx G cX12_blanks RX12 p s m args meth c) (hm : c.maxLocals = 1) (hr : meth.sig.returnType = none) (hin : meth.name = yX12_blanks.name) {v0 : Nat}  :
    ∀ (n : Nat) (h : AH), lq0 (F_X12_blanks_0 G v0) n h = some y → EE G p l e ({ frames := 1, cells := 0, slots := 0, locals := 20 } : Room) s m args below meth c (none, y) 0 0 0 [(0, .ref v0)] [] h 0 0 := by
  intro n
  induction n with
  | zero => intro h hf; exact (no_e hf).elim
  | succ n ih_0 =>
    intro h hf
    have hf : F_X12_blanks_0 G v0 (lq0 (F_X12_blanks_0 G v0) n) h = some y := hf
    generalize lq0 (F_X12_blanks_0 G v0) n = self_0 at hf ih_0
    unfold F_X12_blanks_0 at hf
    refine e_aload_n (pc := 0) C dX12_blanks_0 0 rfl rfl ?_
    obtain ⟨t1, hf⟩ := ck_e hf
    obtain ⟨r4, h2, y3, hf⟩ := cb_e hf
    refine e_callVi (pc := 1) (st := []) 12 C (ct_X12_sign y3) dX12_blanks_1 (by decide) t1 g1690 g1692 g60 g157 g1693 hd_X12_sign rfl ⟨Nat.le_of_ble_eq_true rfl, Nat.le_of_ble_eq_true rfl⟩ ⟨Nat.le_of_ble_eq_true rfl, Nat.le_of_ble_eq_true rfl⟩ rfl (Nat.le_of_ble_eq_true rfl) ?_
    refine e_bipush (v := (32 : Int32)) (pc := 4) C dX12_blanks_4 (by decide) ?_
    rcases it_e hf with ⟨c5, hf⟩ | ⟨c5, hf⟩
    · refine e_icmp_ne (pc := 6) (tgt := 22) C dX12_blanks_6 (by decide) (fun q => absurd c5 q) (fun _ => ?_)
      refine e_aload_n (pc := 9) C dX12_blanks_9 0 rfl rfl ?_
      refine e_dup (pc := 10) C dX12_blanks_10 rfl ?_
      obtain ⟨t6, hf⟩ := ck_e hf
      refine e_geti (pc := 11) 12 33 C dX12_blanks_11 (by decide) (by decide) g1434 rfl t6 ?_
      refine e_iconst (v := (1 : Int32)) (pc := 14) C dX12_blanks_14 (by decide) ?_
      refine e_iadd (pc := 15) C dX12_blanks_15 ?_
      refine e_puti (pc := 16) 12 33 C dX12_blanks_16 (by decide) (by decide) g1434 rfl rfl rfl rfl t6 ?_
      obtain ⟨h7, eh7, hf⟩ := nn_e hf
      refine e_hp eh7 ?_
      have uh7 : m_t h7 = m_t h2 := by rw [eh7]; exact rfl
      refine e_goto (pc := 19) (tgt := 0) C dX12_blanks_19 (by decide) ?_
      exact ih_0 h7 hf
    · refine e_icmp_ne (pc := 6) (tgt := 22) C dX12_blanks_6 (by decide) (fun _ => ?_) (fun q => absurd q c5)
      obtain rfl := so_e hf
      exact e_vret (pc := 22) C hr dX12_blanks_22 (Nat.le_of_ble_eq_true rfl) (Nat.le_of_ble_eq_true rfl)
set_option maxHeartbeats 4000000 in
set_option maxRecDepth 100000 in
theorem ct_X12_blanks {G : GG} {l : Launch} {v0 : Nat} {h : AH} {y : AH} (hf : f_X12_blanks G v0 h = some y) : Ct G l yX12_blanks cX12_blanks 1 none 1 20 0 0 [.ref v0] h (none, y) := by
  refine ct_of (by decide) (Nat.le_of_ble_eq_true rfl) ?_
  intro p e s m args below meth c C hm hr hin
  have C : Cx G cX12_blanks RX12 p s m args meth c := C
  refine e_lv (lv2 := [(0, .ref v0)]) [0] rfl ?_
  unfold f_X12_blanks at hf
  exact el_X12_blanks_0 C hm hr hin bN h hf
theorem dX12_isDigit_0 : decode cX12_isDigit 0 = .ok (.aload_n 0, 1) := by decide +kernel
theorem dX12_isDigit_1 : decode cX12_isDigit 1 = .ok (.invokevirtual 249, 3) := by decide +kernel
theorem dX12_isDigit_4 : decode cX12_isDigit 4 = .ok (.i2l, 1) := by decide +kernel
theorem dX12_isDigit_5 : decode cX12_isDigit 5 = .ok (.ldc2_w 253, 3) := by decide +kernel
theorem dX12_isDigit_8 : decode cX12_isDigit 8 = .ok (.ldc2_w 255, 3) := by decide +kernel
theorem dX12_isDigit_11 : decode cX12_isDigit 11 = .ok (.invokestatic 206, 3) := by decide +kernel
theorem dX12_isDigit_14 : decode cX12_isDigit 14 = .ok (.ireturn, 1) := by decide +kernel
def f_X12_isDigit (G : GG) (v0 : Nat) (h : AH) : Option (Int32 × AH) :=
ck (m_t h v0 = .inl 12) <|
cb (f_X12_sign G v0 h) fun r4 h2 =>
cb (f_X12_in G r4.toInt64 (48 : Int64) (57 : Int64) h2) fun r7 h5 =>
ck (r7 &&& 1 = r7) <|
some (r7, h5)
set_option maxHeartbeats 4000000 in
set_option maxRecDepth 100000 in
theorem ct_X12_isDigit {G : GG} {l : Launch} {v0 : Nat} {h : AH} {y : Int32 × AH} (hf : f_X12_isDigit G v0 h = some y) : Ct G l yX12_isDigit cX12_isDigit 1 (some .boolean) 1 25 0 0 [.ref v0] h (some (.int y.1), y.2) := by
  refine ct_of (by decide) (Nat.le_of_ble_eq_true rfl) ?_
  intro p e s m args below meth c C hm hr hin
  have C : Cx G cX12_isDigit RX12 p s m args meth c := C
  refine e_lv (lv2 := [(0, .ref v0)]) [0] rfl ?_
  unfold f_X12_isDigit at hf
  refine e_aload_n (pc := 0) C dX12_isDigit_0 0 rfl rfl ?_
  obtain ⟨t1, hf⟩ := ck_e hf
  obtain ⟨r4, h2, y3, hf⟩ := cb_e hf
  refine e_callVi (pc := 1) (st := []) 12 C (ct_X12_sign y3) dX12_isDigit_1 (by decide) t1 g1690 g1692 g60 g157 g1693 hd_X12_sign rfl ⟨Nat.le_of_ble_eq_true rfl, Nat.le_of_ble_eq_true rfl⟩ ⟨Nat.le_of_ble_eq_true rfl, Nat.le_of_ble_eq_true rfl⟩ rfl (Nat.le_of_ble_eq_true rfl) ?_
  refine e_i2l (pc := 4) C dX12_isDigit_4 ?_
  refine e_ldc2 (pc := 5) C dX12_isDigit_5 g1735 ?_
  refine e_ldc2 (pc := 8) C dX12_isDigit_8 g1736 ?_
  obtain ⟨r7, h5, y6, hf⟩ := cb_e hf
  refine e_callSi (pc := 11) (st := []) C (ct_X12_in y6) dX12_isDigit_11 g1737 g1738 g157 g1739 hd_X12_in rfl ⟨Nat.le_of_ble_eq_true rfl, Nat.le_of_ble_eq_true rfl⟩ ⟨Nat.le_of_ble_eq_true rfl, Nat.le_of_ble_eq_true rfl⟩ rfl (Nat.le_of_ble_eq_true rfl) ?_
  obtain ⟨q8, hf⟩ := ck_e hf
  obtain rfl := so_e hf
  exact e_zret (pc := 14) (v := r7) C hr (nz_ok q8) dX12_isDigit_14 (Nat.le_of_ble_eq_true rfl) (Nat.le_of_ble_eq_true rfl)
theorem dX12_stood_0 : decode cX12_stood 0 = .ok (.aload_n 0, 1) := by decide +kernel
theorem dX12_stood_1 : decode cX12_stood 1 = .ok (.getfield 246, 3) := by decide +kernel
theorem dX12_stood_4 : decode cX12_stood 4 = .ok (.istore_n 2, 1) := by decide +kernel
theorem dX12_stood_5 : decode cX12_stood 5 = .ok (.iload_n 2, 1) := by decide +kernel
theorem dX12_stood_6 : decode cX12_stood 6 = .ok (.aload_n 0, 1) := by decide +kernel
theorem dX12_stood_7 : decode cX12_stood 7 = .ok (.getfield 210, 3) := by decide +kernel
theorem dX12_stood_10 : decode cX12_stood 10 = .ok (.if_icmp .ge 31, 3) := by decide +kernel
theorem dX12_stood_13 : decode cX12_stood 13 = .ok (.aload_n 0, 1) := by decide +kernel
theorem dX12_stood_14 : decode cX12_stood 14 = .ok (.getfield 107, 3) := by decide +kernel
theorem dX12_stood_17 : decode cX12_stood 17 = .ok (.iload_n 2, 1) := by decide +kernel
theorem dX12_stood_18 : decode cX12_stood 18 = .ok (.baload, 1) := by decide +kernel
theorem dX12_stood_19 : decode cX12_stood 19 = .ok (.bipush 97, 2) := by decide +kernel
theorem dX12_stood_21 : decode cX12_stood 21 = .ok (.if_icmp .lt 20, 3) := by decide +kernel
theorem dX12_stood_24 : decode cX12_stood 24 = .ok (.aload_n 0, 1) := by decide +kernel
theorem dX12_stood_25 : decode cX12_stood 25 = .ok (.getfield 107, 3) := by decide +kernel
theorem dX12_stood_28 : decode cX12_stood 28 = .ok (.iload_n 2, 1) := by decide +kernel
theorem dX12_stood_29 : decode cX12_stood 29 = .ok (.baload, 1) := by decide +kernel
theorem dX12_stood_30 : decode cX12_stood 30 = .ok (.bipush 122, 2) := by decide +kernel
theorem dX12_stood_32 : decode cX12_stood 32 = .ok (.if_icmp .gt 9, 3) := by decide +kernel
theorem dX12_stood_35 : decode cX12_stood 35 = .ok (.iinc 2 1, 3) := by decide +kernel
theorem dX12_stood_38 : decode cX12_stood 38 = .ok (.goto (-33), 3) := by decide +kernel
theorem dX12_stood_41 : decode cX12_stood 41 = .ok (.iload_n 2, 1) := by decide +kernel
theorem dX12_stood_42 : decode cX12_stood 42 = .ok (.aload_n 0, 1) := by decide +kernel
theorem dX12_stood_43 : decode cX12_stood 43 = .ok (.getfield 246, 3) := by decide +kernel
theorem dX12_stood_46 : decode cX12_stood 46 = .ok (.isub, 1) := by decide +kernel
theorem dX12_stood_47 : decode cX12_stood 47 = .ok (.aload_n 1, 1) := by decide +kernel
theorem dX12_stood_48 : decode cX12_stood 48 = .ok (.invokevirtual 257, 3) := by decide +kernel
theorem dX12_stood_51 : decode cX12_stood 51 = .ok (.if_icmp .ne 7, 3) := by decide +kernel
theorem dX12_stood_54 : decode cX12_stood 54 = .ok (.iconst 1, 1) := by decide +kernel
theorem dX12_stood_55 : decode cX12_stood 55 = .ok (.goto 4, 3) := by decide +kernel
theorem dX12_stood_58 : decode cX12_stood 58 = .ok (.iconst 0, 1) := by decide +kernel
theorem dX12_stood_59 : decode cX12_stood 59 = .ok (.istore_n 3, 1) := by decide +kernel
theorem dX12_stood_60 : decode cX12_stood 60 = .ok (.iconst 0, 1) := by decide +kernel
theorem dX12_stood_61 : decode cX12_stood 61 = .ok (.istore 4, 2) := by decide +kernel
theorem dX12_stood_63 : decode cX12_stood 63 = .ok (.iload 4, 2) := by decide +kernel
theorem dX12_stood_65 : decode cX12_stood 65 = .ok (.aload_n 1, 1) := by decide +kernel
theorem dX12_stood_66 : decode cX12_stood 66 = .ok (.invokevirtual 257, 3) := by decide +kernel
theorem dX12_stood_69 : decode cX12_stood 69 = .ok (.if_icmp .ge 40, 3) := by decide +kernel
theorem dX12_stood_72 : decode cX12_stood 72 = .ok (.iload_n 3, 1) := by decide +kernel
theorem dX12_stood_73 : decode cX12_stood 73 = .ok (.ifCond .eq 36, 3) := by decide +kernel
theorem dX12_stood_76 : decode cX12_stood 76 = .ok (.aload_n 0, 1) := by decide +kernel
theorem dX12_stood_77 : decode cX12_stood 77 = .ok (.getfield 107, 3) := by decide +kernel
theorem dX12_stood_80 : decode cX12_stood 80 = .ok (.aload_n 0, 1) := by decide +kernel
theorem dX12_stood_81 : decode cX12_stood 81 = .ok (.getfield 246, 3) := by decide +kernel
theorem dX12_stood_84 : decode cX12_stood 84 = .ok (.iload 4, 2) := by decide +kernel
theorem dX12_stood_86 : decode cX12_stood 86 = .ok (.iadd, 1) := by decide +kernel
theorem dX12_stood_87 : decode cX12_stood 87 = .ok (.baload, 1) := by decide +kernel
theorem dX12_stood_88 : decode cX12_stood 88 = .ok (.aload_n 1, 1) := by decide +kernel
theorem dX12_stood_89 : decode cX12_stood 89 = .ok (.iload 4, 2) := by decide +kernel
theorem dX12_stood_91 : decode cX12_stood 91 = .ok (.invokevirtual 262, 3) := by decide +kernel
theorem dX12_stood_94 : decode cX12_stood 94 = .ok (.if_icmp .ne 7, 3) := by decide +kernel
theorem dX12_stood_97 : decode cX12_stood 97 = .ok (.iconst 1, 1) := by decide +kernel
theorem dX12_stood_98 : decode cX12_stood 98 = .ok (.goto 4, 3) := by decide +kernel
theorem dX12_stood_101 : decode cX12_stood 101 = .ok (.iconst 0, 1) := by decide +kernel
theorem dX12_stood_102 : decode cX12_stood 102 = .ok (.istore_n 3, 1) := by decide +kernel
theorem dX12_stood_103 : decode cX12_stood 103 = .ok (.iinc 4 1, 3) := by decide +kernel
theorem dX12_stood_106 : decode cX12_stood 106 = .ok (.goto (-43), 3) := by decide +kernel
theorem dX12_stood_109 : decode cX12_stood 109 = .ok (.iload_n 3, 1) := by decide +kernel
theorem dX12_stood_110 : decode cX12_stood 110 = .ok (.ireturn, 1) := by decide +kernel
def F_X12_stood_5 (G : GG) (v0 : Nat) (v1 : Nat) (K_41 : Int32 → AH → Option (Int32 × AH)) (self_5 : Int32 → AH → Option (Int32 × AH)) (v2 : Int32) (h : AH) : Option (Int32 × AH) :=
ck (m_t h v0 = .inl 12) <|
if (m_i h v0 32) ≤ v2 then (K_41 v2 h) else
ob (m_r h v0 42) fun b5 =>
ck (ixb h b5 .byte v2 = true) <|
if (m_i h b5 v2.toNatClampNeg) < (97 : Int32) then (K_41 v2 h) else
ob (m_r h v0 42) fun b9 =>
ck (ixb h b9 .byte v2 = true) <|
if (122 : Int32) < (m_i h b9 v2.toNatClampNeg) then (K_41 v2 h) else
nn (v2 + (1 : Int32)) fun x13 =>
self_5 x13 h
def F_X12_stood_63 (G : GG) (v0 : Nat) (v1 : Nat) (self_63 : Int32 → Int32 → AH → Option (Int32 × AH)) (v3 : Int32) (v4 : Int32) (h : AH) : Option (Int32 × AH) :=
cb (f_J0_length_8abf5 G v1 h) fun r20 h18 =>
if r20 ≤ v4 then (ck (v3 &&& 1 = v3) <|
some (v3, h18)) else
if v3 = 0 then (ck (v3 &&& 1 = v3) <|
some (v3, h18)) else
ck (m_t h18 v0 = .inl 12) <|
ob (m_r h18 v0 42) fun b26 =>
ck (ixb h18 b26 .byte ((m_i h18 v0 33) + v4) = true) <|
cb (f_J0_charAt_5068e G v1 v4 h18) fun r31 h29 =>
nn (fun (s0_102 : Int32) => (nn (v4 + (1 : Int32)) fun x32 =>
self_63 s0_102 x32 h29)) fun j_102 =>
if (m_i h18 b26 ((m_i h18 v0 33) + v4).toNatClampNeg) = r31 then (j_102 (1 : Int32)) else
j_102 (0 : Int32)
def f_X12_stood (G : GG) (v0 : Nat) (v1 : Nat) (h : AH) : Option (Int32 × AH) :=
ck (m_t h v0 = .inl 12) <|
nn (m_i h v0 33) fun x2 =>
lq1 (F_X12_stood_5 G v0 v1 (fun (v2_41 : Int32) (h_41 : AH) => (ck (m_t h_41 v0 = .inl 12) <|
cb (f_J0_length_8abf5 G v1 h_41) fun r17 h15 =>
nn (fun (s0_59 : Int32) => (lq2 (F_X12_stood_63 G v0 v1 ) bN s0_59 (0 : Int32) h15)) fun j_59 =>
if (v2_41 - (m_i h_41 v0 33)) = r17 then (j_59 (1 : Int32)) else
j_59 (0 : Int32)))) bN x2 h
set_option maxHeartbeats 4000000 in
set_option maxRecDepth 100000 in
theorem el_X12_stood_5 {G : GG} {p : Program} {l : Launch} {e : Env} {s : State} {m : MethodId} {args : Array Value} {below : List Frame} {meth : Method} {c : Code} {y : Int32 × AH} (C : Cx G cX12_stood RX12 p s m args meth c) (hm : c.maxLocals = 5) (hr : meth.sig.returnType = (some .boolean)) (hin : meth.name = yX12_stood.name) {v0 : Nat} {v1 : Nat} {K_41 : Int32 → AH → Option (Int32 × AH)} (hK_41 : ∀ (w2 : Int32) (h : AH), K_41 w2 h = some y → EE G p l e ({ frames := 4, cells := 0, slots := 0, locals := 85 } : Room) s m args below meth c (some (.int y.1), y.2) 0 0 41 [(0, .ref v0), (1, .ref v1), (2, .int w2)] [] h 0 0) :
    ∀ (n : Nat) (v2 : Int32) (h : AH), lq1 (F_X12_stood_5 G v0 v1 K_41) n v2 h = some y → EE G p l e ({ frames := 4, cells := 0, slots := 0, locals := 85 } : Room) s m args below meth c (some (.int y.1), y.2) 0 0 5 [(0, .ref v0), (1, .ref v1), (2, .int v2)] [] h 0 0 := by
  intro n
  induction n with
  | zero => intro v2 h hf; exact (no_e hf).elim
  | succ n ih_5 =>
    intro v2 h hf
    have hf : F_X12_stood_5 G v0 v1 K_41 (lq1 (F_X12_stood_5 G v0 v1 K_41) n) v2 h = some y := hf
    generalize lq1 (F_X12_stood_5 G v0 v1 K_41) n = self_5 at hf ih_5
    unfold F_X12_stood_5 at hf
    refine e_iload_n (pc := 5) C dX12_stood_5 2 rfl rfl ?_
    refine e_aload_n (pc := 6) C dX12_stood_6 0 rfl rfl ?_
    obtain ⟨t3, hf⟩ := ck_e hf
    refine e_geti (pc := 7) 12 32 C dX12_stood_7 (by decide) (by decide) g1433 rfl t3 ?_
    rcases it_e hf with ⟨c4, hf⟩ | ⟨c4, hf⟩
    · refine e_icmp_ge (pc := 10) (tgt := 41) C dX12_stood_10 (by decide) (fun _ => ?_) (fun q => absurd c4 q)
      exact hK_41 v2 h hf
    · refine e_icmp_ge (pc := 10) (tgt := 41) C dX12_stood_10 (by decide) (fun q => absurd q c4) (fun _ => ?_)
      refine e_aload_n (pc := 13) C dX12_stood_13 0 rfl rfl ?_
      refine e_getr (pc := 14) 12 42 C dX12_stood_14 (by decide) (by decide) g1443 rfl t3 ?_
      obtain ⟨b5, eb5, hf⟩ := ob_e hf
      refine e_rf eb5 ?_
      refine e_iload_n (pc := 17) C dX12_stood_17 2 rfl rfl ?_
      obtain ⟨q6, hf⟩ := ck_e hf
      obtain ⟨n7, tn7, in7⟩ := ix_e q6
      refine e_bald (pc := 18) C dX12_stood_18 tn7 in7 ?_
      refine e_bipush (v := (97 : Int32)) (pc := 19) C dX12_stood_19 (by decide) ?_
      rcases it_e hf with ⟨c8, hf⟩ | ⟨c8, hf⟩
      · refine e_icmp_lt (pc := 21) (tgt := 41) C dX12_stood_21 (by decide) (fun _ => ?_) (fun q => absurd c8 q)
        exact hK_41 v2 h hf
      · refine e_icmp_lt (pc := 21) (tgt := 41) C dX12_stood_21 (by decide) (fun q => absurd q c8) (fun _ => ?_)
        refine e_aload_n (pc := 24) C dX12_stood_24 0 rfl rfl ?_
        refine e_getr (pc := 25) 12 42 C dX12_stood_25 (by decide) (by decide) g1443 rfl t3 ?_
        obtain ⟨b9, eb9, hf⟩ := ob_e hf
        refine e_rf eb9 ?_
        refine e_iload_n (pc := 28) C dX12_stood_28 2 rfl rfl ?_
        obtain ⟨q10, hf⟩ := ck_e hf
        obtain ⟨n11, tn11, in11⟩ := ix_e q10
        refine e_bald (pc := 29) C dX12_stood_29 tn11 in11 ?_
        refine e_bipush (v := (122 : Int32)) (pc := 30) C dX12_stood_30 (by decide) ?_
        rcases it_e hf with ⟨c12, hf⟩ | ⟨c12, hf⟩
        · refine e_icmp_gt (pc := 32) (tgt := 41) C dX12_stood_32 (by decide) (fun _ => ?_) (fun q => absurd c12 q)
          exact hK_41 v2 h hf
        · refine e_icmp_gt (pc := 32) (tgt := 41) C dX12_stood_32 (by decide) (fun q => absurd q c12) (fun _ => ?_)
          obtain ⟨x13, ex13, hf⟩ := nn_e hf
          refine e_iinc (pc := 35) (v := x13) (lv2 := [(2, .int x13), (0, .ref v0), (1, .ref v1)]) C hm dX12_stood_35 2 rfl (by rw [ex13]; rfl) (by decide) rfl ?_
          refine e_goto (pc := 38) (tgt := 5) C dX12_stood_38 (by decide) ?_
          refine e_lv (lv2 := [(0, .ref v0), (1, .ref v1), (2, .int x13)]) [1, 2, 0] rfl ?_
          exact ih_5 x13 h hf
set_option maxHeartbeats 4000000 in
set_option maxRecDepth 100000 in
theorem el_X12_stood_63 {G : GG} {p : Program} {l : Launch} {e : Env} {s : State} {m : MethodId} {args : Array Value} {below : List Frame} {meth : Method} {c : Code} {y : Int32 × AH} (C : Cx G cX12_stood RX12 p s m args meth c) (hm : c.maxLocals = 5) (hr : meth.sig.returnType = (some .boolean)) (hin : meth.name = yX12_stood.name) {v0 : Nat} {v1 : Nat}  :
    ∀ (n : Nat) (v3 : Int32) (v4 : Int32) (h : AH), lq2 (F_X12_stood_63 G v0 v1) n v3 v4 h = some y → EE G p l e ({ frames := 4, cells := 0, slots := 0, locals := 85 } : Room) s m args below meth c (some (.int y.1), y.2) 0 0 63 [(0, .ref v0), (1, .ref v1), (3, .int v3), (4, .int v4)] [] h 0 0 := by
  intro n
  induction n with
  | zero => intro v3 v4 h hf; exact (no_e hf).elim
  | succ n ih_63 =>
    intro v3 v4 h hf
    have hf : F_X12_stood_63 G v0 v1 (lq2 (F_X12_stood_63 G v0 v1) n) v3 v4 h = some y := hf
    generalize lq2 (F_X12_stood_63 G v0 v1) n = self_63 at hf ih_63
    unfold F_X12_stood_63 at hf
    refine e_iload (pc := 63) C dX12_stood_63 3 rfl ?_
    refine e_aload_n (pc := 65) C dX12_stood_65 1 rfl rfl ?_
    obtain ⟨r20, h18, y19, hf⟩ := cb_e hf
    refine e_callK (pc := 66) (st := [.int v4]) (sq_J0_length_8abf5 y19) C (ct_J0_length_8abf5 y19) dX12_stood_66 g1708 g663 g664 g158 g665 hd_J0_length_8abf5 rfl ⟨Nat.le_of_ble_eq_true rfl, Nat.le_of_ble_eq_true rfl⟩ ⟨Nat.le_of_ble_eq_true rfl, Nat.le_of_ble_eq_true rfl⟩ rfl (Nat.le_of_ble_eq_true rfl) ?_
    rcases it_e hf with ⟨c21, hf⟩ | ⟨c21, hf⟩
    · refine e_icmp_ge (pc := 69) (tgt := 109) C dX12_stood_69 (by decide) (fun _ => ?_) (fun q => absurd c21 q)
      refine e_iload_n (pc := 109) C dX12_stood_109 2 rfl rfl ?_
      obtain ⟨q22, hf⟩ := ck_e hf
      obtain rfl := so_e hf
      exact e_zret (pc := 110) (v := v3) C hr (nz_ok q22) dX12_stood_110 (Nat.le_of_ble_eq_true rfl) (Nat.le_of_ble_eq_true rfl)
    · refine e_icmp_ge (pc := 69) (tgt := 109) C dX12_stood_69 (by decide) (fun q => absurd q c21) (fun _ => ?_)
      refine e_iload_n (pc := 72) C dX12_stood_72 2 rfl rfl ?_
      rcases it_e hf with ⟨c23, hf⟩ | ⟨c23, hf⟩
      · refine e_if_eq (pc := 73) (tgt := 109) C dX12_stood_73 (by decide) (fun _ => ?_) (fun q => absurd c23 q)
        refine e_iload_n (pc := 109) C dX12_stood_109 2 rfl rfl ?_
        obtain ⟨q24, hf⟩ := ck_e hf
        obtain rfl := so_e hf
        exact e_zret (pc := 110) (v := v3) C hr (nz_ok q24) dX12_stood_110 (Nat.le_of_ble_eq_true rfl) (Nat.le_of_ble_eq_true rfl)
      · refine e_if_eq (pc := 73) (tgt := 109) C dX12_stood_73 (by decide) (fun q => absurd q c23) (fun _ => ?_)
        refine e_aload_n (pc := 76) C dX12_stood_76 0 rfl rfl ?_
        obtain ⟨t25, hf⟩ := ck_e hf
        refine e_getr (pc := 77) 12 42 C dX12_stood_77 (by decide) (by decide) g1443 rfl t25 ?_
        obtain ⟨b26, eb26, hf⟩ := ob_e hf
        refine e_rf eb26 ?_
        refine e_aload_n (pc := 80) C dX12_stood_80 0 rfl rfl ?_
        refine e_geti (pc := 81) 12 33 C dX12_stood_81 (by decide) (by decide) g1434 rfl t25 ?_
        refine e_iload (pc := 84) C dX12_stood_84 3 rfl ?_
        refine e_iadd (pc := 86) C dX12_stood_86 ?_
        obtain ⟨q27, hf⟩ := ck_e hf
        obtain ⟨n28, tn28, in28⟩ := ix_e q27
        refine e_bald (pc := 87) C dX12_stood_87 tn28 in28 ?_
        refine e_aload_n (pc := 88) C dX12_stood_88 1 rfl rfl ?_
        refine e_iload (pc := 89) C dX12_stood_89 3 rfl ?_
        obtain ⟨r31, h29, y30, hf⟩ := cb_e hf
        refine e_callK (pc := 91) (st := [.int (m_i h18 b26 ((m_i h18 v0 33) + v4).toNatClampNeg)]) (sq_J0_charAt_5068e y30) C (ct_J0_charAt_5068e y30) dX12_stood_91 g1709 g677 g678 g158 g679 hd_J0_charAt_5068e rfl ⟨Nat.le_of_ble_eq_true rfl, Nat.le_of_ble_eq_true rfl⟩ ⟨Nat.le_of_ble_eq_true rfl, Nat.le_of_ble_eq_true rfl⟩ rfl (Nat.le_of_ble_eq_true rfl) ?_
        obtain ⟨j_102, ej_102, hf⟩ := nn_e hf
        have W_102 : ∀ (s0_102 : Int32), j_102 s0_102 = some y → EE G p l e ({ frames := 4, cells := 0, slots := 0, locals := 85 } : Room) s m args below meth c (some (.int y.1), y.2) 0 0 102 [(0, .ref v0), (1, .ref v1), (4, .int v4)] [.int s0_102] h29 0 0 := by
          intro s0_102 hf
          rw [ej_102] at hf
          refine e_istore_n (pc := 102) (lv2 := [(3, .int s0_102), (0, .ref v0), (1, .ref v1), (4, .int v4)]) C hm dX12_stood_102 rfl (by decide) rfl ?_
          obtain ⟨x32, ex32, hf⟩ := nn_e hf
          refine e_iinc (pc := 103) (v := x32) (lv2 := [(4, .int x32), (3, .int s0_102), (0, .ref v0), (1, .ref v1)]) C hm dX12_stood_103 3 rfl (by rw [ex32]; rfl) (by decide) rfl ?_
          refine e_goto (pc := 106) (tgt := 63) C dX12_stood_106 (by decide) ?_
          refine e_lv (lv2 := [(0, .ref v0), (1, .ref v1), (3, .int s0_102), (4, .int x32)]) [2, 3, 1, 0] rfl ?_
          exact ih_63 s0_102 x32 h29 hf
        rcases it_e hf with ⟨c33, hf⟩ | ⟨c33, hf⟩
        · refine e_icmp_ne (pc := 94) (tgt := 101) C dX12_stood_94 (by decide) (fun q => absurd c33 q) (fun _ => ?_)
          refine e_iconst (v := (1 : Int32)) (pc := 97) C dX12_stood_97 (by decide) ?_
          refine e_goto (pc := 98) (tgt := 102) C dX12_stood_98 (by decide) ?_
          refine e_lv (lv2 := [(0, .ref v0), (1, .ref v1), (4, .int v4)]) [0, 1, 3] rfl ?_
          exact W_102 (1 : Int32) hf
        · refine e_icmp_ne (pc := 94) (tgt := 101) C dX12_stood_94 (by decide) (fun _ => ?_) (fun q => absurd q c33)
          refine e_iconst (v := (0 : Int32)) (pc := 101) C dX12_stood_101 (by decide) ?_
          refine e_lv (lv2 := [(0, .ref v0), (1, .ref v1), (4, .int v4)]) [0, 1, 3] rfl ?_
          exact W_102 (0 : Int32) hf
set_option maxHeartbeats 4000000 in
set_option maxRecDepth 100000 in
theorem ct_X12_stood {G : GG} {l : Launch} {v0 : Nat} {v1 : Nat} {h : AH} {y : Int32 × AH} (hf : f_X12_stood G v0 v1 h = some y) : Ct G l yX12_stood cX12_stood 5 (some .boolean) 4 85 0 0 [.ref v0, .ref v1] h (some (.int y.1), y.2) := by
  refine ct_of (by decide) (Nat.le_of_ble_eq_true rfl) ?_
  intro p e s m args below meth c C hm hr hin
  have C : Cx G cX12_stood RX12 p s m args meth c := C
  refine e_lv (lv2 := [(0, .ref v0), (1, .ref v1)]) [0, 1] rfl ?_
  unfold f_X12_stood at hf
  refine e_aload_n (pc := 0) C dX12_stood_0 0 rfl rfl ?_
  obtain ⟨t1, hf⟩ := ck_e hf
  refine e_geti (pc := 1) 12 33 C dX12_stood_1 (by decide) (by decide) g1434 rfl t1 ?_
  obtain ⟨x2, ex2, hf⟩ := nn_e hf
  refine e_topi ex2 ?_
  refine e_istore_n (pc := 4) (lv2 := [(2, .int x2), (0, .ref v0), (1, .ref v1)]) C hm dX12_stood_4 rfl (by decide) rfl ?_
  refine e_lv (lv2 := [(0, .ref v0), (1, .ref v1), (2, .int x2)]) [1, 2, 0] rfl ?_
  refine el_X12_stood_5 C hm hr hin (fun v2_41 h_41 hf => ?_) bN x2 h hf
  refine e_iload_n (pc := 41) C dX12_stood_41 2 rfl rfl ?_
  refine e_aload_n (pc := 42) C dX12_stood_42 0 rfl rfl ?_
  obtain ⟨t14, hf⟩ := ck_e hf
  refine e_geti (pc := 43) 12 33 C dX12_stood_43 (by decide) (by decide) g1434 rfl t14 ?_
  refine e_isub (pc := 46) C dX12_stood_46 ?_
  refine e_aload_n (pc := 47) C dX12_stood_47 1 rfl rfl ?_
  obtain ⟨r17, h15, y16, hf⟩ := cb_e hf
  refine e_callK (pc := 48) (st := [.int (v2_41 - (m_i h_41 v0 33))]) (sq_J0_length_8abf5 y16) C (ct_J0_length_8abf5 y16) dX12_stood_48 g1708 g663 g664 g158 g665 hd_J0_length_8abf5 rfl ⟨Nat.le_of_ble_eq_true rfl, Nat.le_of_ble_eq_true rfl⟩ ⟨Nat.le_of_ble_eq_true rfl, Nat.le_of_ble_eq_true rfl⟩ rfl (Nat.le_of_ble_eq_true rfl) ?_
  obtain ⟨j_59, ej_59, hf⟩ := nn_e hf
  have W_59 : ∀ (s0_59 : Int32), j_59 s0_59 = some y → EE G p l e ({ frames := 4, cells := 0, slots := 0, locals := 85 } : Room) s m args below meth c (some (.int y.1), y.2) 0 0 59 [(0, .ref v0), (1, .ref v1)] [.int s0_59] h15 0 0 := by
    intro s0_59 hf
    rw [ej_59] at hf
    refine e_istore_n (pc := 59) (lv2 := [(3, .int s0_59), (0, .ref v0), (1, .ref v1)]) C hm dX12_stood_59 rfl (by decide) rfl ?_
    refine e_iconst (v := (0 : Int32)) (pc := 60) C dX12_stood_60 (by decide) ?_
    refine e_istore (pc := 61) (lv2 := [(4, .int (0 : Int32)), (3, .int s0_59), (0, .ref v0), (1, .ref v1)]) C hm dX12_stood_61 (by decide) rfl ?_
    refine e_lv (lv2 := [(0, .ref v0), (1, .ref v1), (3, .int s0_59), (4, .int (0 : Int32))]) [2, 3, 1, 0] rfl ?_
    exact el_X12_stood_63 C hm hr hin bN s0_59 (0 : Int32) h15 hf
  rcases it_e hf with ⟨c34, hf⟩ | ⟨c34, hf⟩
  · refine e_icmp_ne (pc := 51) (tgt := 58) C dX12_stood_51 (by decide) (fun q => absurd c34 q) (fun _ => ?_)
    refine e_iconst (v := (1 : Int32)) (pc := 54) C dX12_stood_54 (by decide) ?_
    refine e_goto (pc := 55) (tgt := 59) C dX12_stood_55 (by decide) ?_
    refine e_lv (lv2 := [(0, .ref v0), (1, .ref v1)]) [0, 1] rfl ?_
    exact W_59 (1 : Int32) hf
  · refine e_icmp_ne (pc := 51) (tgt := 58) C dX12_stood_51 (by decide) (fun _ => ?_) (fun q => absurd q c34)
    refine e_iconst (v := (0 : Int32)) (pc := 58) C dX12_stood_58 (by decide) ?_
    refine e_lv (lv2 := [(0, .ref v0), (1, .ref v1)]) [0, 1] rfl ?_
    exact W_59 (0 : Int32) hf
theorem dX12_takes_0 : decode cX12_takes 0 = .ok (.aload_n 0, 1) := by decide +kernel
theorem dX12_takes_1 : decode cX12_takes 1 = .ok (.invokevirtual 266, 3) := by decide +kernel
theorem dX12_takes_4 : decode cX12_takes 4 = .ok (.aload_n 0, 1) := by decide +kernel
theorem dX12_takes_5 : decode cX12_takes 5 = .ok (.aload_n 1, 1) := by decide +kernel
theorem dX12_takes_6 : decode cX12_takes 6 = .ok (.invokevirtual 269, 3) := by decide +kernel
theorem dX12_takes_9 : decode cX12_takes 9 = .ok (.istore_n 2, 1) := by decide +kernel
theorem dX12_takes_10 : decode cX12_takes 10 = .ok (.aload_n 0, 1) := by decide +kernel
theorem dX12_takes_11 : decode cX12_takes 11 = .ok (.dup, 1) := by decide +kernel
theorem dX12_takes_12 : decode cX12_takes 12 = .ok (.getfield 246, 3) := by decide +kernel
theorem dX12_takes_15 : decode cX12_takes 15 = .ok (.iload_n 2, 1) := by decide +kernel
theorem dX12_takes_16 : decode cX12_takes 16 = .ok (.ifCond .eq 10, 3) := by decide +kernel
theorem dX12_takes_19 : decode cX12_takes 19 = .ok (.aload_n 1, 1) := by decide +kernel
theorem dX12_takes_20 : decode cX12_takes 20 = .ok (.invokevirtual 257, 3) := by decide +kernel
theorem dX12_takes_23 : decode cX12_takes 23 = .ok (.goto 4, 3) := by decide +kernel
theorem dX12_takes_26 : decode cX12_takes 26 = .ok (.iconst 0, 1) := by decide +kernel
theorem dX12_takes_27 : decode cX12_takes 27 = .ok (.iadd, 1) := by decide +kernel
theorem dX12_takes_28 : decode cX12_takes 28 = .ok (.putfield 246, 3) := by decide +kernel
theorem dX12_takes_31 : decode cX12_takes 31 = .ok (.iload_n 2, 1) := by decide +kernel
theorem dX12_takes_32 : decode cX12_takes 32 = .ok (.ireturn, 1) := by decide +kernel
def f_X12_takes (G : GG) (v0 : Nat) (v1 : Nat) (h : AH) : Option (Int32 × AH) :=
ck (m_t h v0 = .inl 12) <|
ob (f_X12_blanks G v0 h) fun h2 =>
ck (m_t h2 v0 = .inl 12) <|
cb (f_X12_stood G v0 v1 h2) fun r7 h5 =>
ck (m_t h5 v0 = .inl 12) <|
if r7 = 0 then (nn (m_si h5 v0 33 ((m_i h5 v0 33) + (0 : Int32))) fun h10 =>
ck (r7 &&& 1 = r7) <|
some (r7, h10)) else
cb (f_J0_length_8abf5 G v1 h5) fun r14 h12 =>
ck (m_t h12 v0 = .inl 12) <|
nn (m_si h12 v0 33 ((m_i h5 v0 33) + r14)) fun h16 =>
ck (r7 &&& 1 = r7) <|
some (r7, h16)
set_option maxHeartbeats 4000000 in
set_option maxRecDepth 100000 in
theorem ct_X12_takes {G : GG} {l : Launch} {v0 : Nat} {v1 : Nat} {h : AH} {y : Int32 × AH} (hf : f_X12_takes G v0 v1 h = some y) : Ct G l yX12_takes cX12_takes 3 (some .boolean) 5 109 0 0 [.ref v0, .ref v1] h (some (.int y.1), y.2) := by
  refine ct_of (by decide) (Nat.le_of_ble_eq_true rfl) ?_
  intro p e s m args below meth c C hm hr hin
  have C : Cx G cX12_takes RX12 p s m args meth c := C
  refine e_lv (lv2 := [(0, .ref v0), (1, .ref v1)]) [0, 1] rfl ?_
  unfold f_X12_takes at hf
  refine e_aload_n (pc := 0) C dX12_takes_0 0 rfl rfl ?_
  obtain ⟨t1, hf⟩ := ck_e hf
  obtain ⟨h2, y3, hf⟩ := ob_e hf
  refine e_callVv (pc := 1) (st := []) 12 C (ct_X12_blanks y3) dX12_takes_1 (by decide) t1 g1686 g1688 g59 g157 g1689 hd_X12_blanks rfl ⟨Nat.le_of_ble_eq_true rfl, Nat.le_of_ble_eq_true rfl⟩ ⟨Nat.le_of_ble_eq_true rfl, Nat.le_of_ble_eq_true rfl⟩ rfl (Nat.le_of_ble_eq_true rfl) ?_
  refine e_aload_n (pc := 4) C dX12_takes_4 0 rfl rfl ?_
  refine e_aload_n (pc := 5) C dX12_takes_5 1 rfl rfl ?_
  obtain ⟨t4, hf⟩ := ck_e hf
  obtain ⟨r7, h5, y6, hf⟩ := cb_e hf
  refine e_callVi (pc := 6) (st := []) 12 C (ct_X12_stood y6) dX12_takes_6 (by decide) t4 g1704 g1706 g61 g157 g1707 hd_X12_stood rfl ⟨Nat.le_of_ble_eq_true rfl, Nat.le_of_ble_eq_true rfl⟩ ⟨Nat.le_of_ble_eq_true rfl, Nat.le_of_ble_eq_true rfl⟩ rfl (Nat.le_of_ble_eq_true rfl) ?_
  refine e_istore_n (pc := 9) (lv2 := [(2, .int r7), (0, .ref v0), (1, .ref v1)]) C hm dX12_takes_9 rfl (by decide) rfl ?_
  refine e_aload_n (pc := 10) C dX12_takes_10 1 rfl rfl ?_
  refine e_dup (pc := 11) C dX12_takes_11 rfl ?_
  obtain ⟨t8, hf⟩ := ck_e hf
  refine e_geti (pc := 12) 12 33 C dX12_takes_12 (by decide) (by decide) g1434 rfl t8 ?_
  refine e_iload_n (pc := 15) C dX12_takes_15 0 rfl rfl ?_
  rcases it_e hf with ⟨c9, hf⟩ | ⟨c9, hf⟩
  · refine e_if_eq (pc := 16) (tgt := 26) C dX12_takes_16 (by decide) (fun _ => ?_) (fun q => absurd c9 q)
    refine e_iconst (v := (0 : Int32)) (pc := 26) C dX12_takes_26 (by decide) ?_
    refine e_iadd (pc := 27) C dX12_takes_27 ?_
    refine e_puti (pc := 28) 12 33 C dX12_takes_28 (by decide) (by decide) g1434 rfl rfl rfl rfl t8 ?_
    obtain ⟨h10, eh10, hf⟩ := nn_e hf
    refine e_hp eh10 ?_
    have uh10 : m_t h10 = m_t h5 := by rw [eh10]; exact rfl
    refine e_iload_n (pc := 31) C dX12_takes_31 0 rfl rfl ?_
    obtain ⟨q11, hf⟩ := ck_e hf
    obtain rfl := so_e hf
    exact e_zret (pc := 32) (v := r7) C hr (nz_ok q11) dX12_takes_32 (Nat.le_of_ble_eq_true rfl) (Nat.le_of_ble_eq_true rfl)
  · refine e_if_eq (pc := 16) (tgt := 26) C dX12_takes_16 (by decide) (fun q => absurd q c9) (fun _ => ?_)
    refine e_aload_n (pc := 19) C dX12_takes_19 2 rfl rfl ?_
    obtain ⟨r14, h12, y13, hf⟩ := cb_e hf
    refine e_callK (pc := 20) (st := [.int (m_i h5 v0 33), .ref v0]) (sq_J0_length_8abf5 y13) C (ct_J0_length_8abf5 y13) dX12_takes_20 g1708 g663 g664 g158 g665 hd_J0_length_8abf5 rfl ⟨Nat.le_of_ble_eq_true rfl, Nat.le_of_ble_eq_true rfl⟩ ⟨Nat.le_of_ble_eq_true rfl, Nat.le_of_ble_eq_true rfl⟩ rfl (Nat.le_of_ble_eq_true rfl) ?_
    refine e_goto (pc := 23) (tgt := 27) C dX12_takes_23 (by decide) ?_
    refine e_iadd (pc := 27) C dX12_takes_27 ?_
    obtain ⟨t15, hf⟩ := ck_e hf
    refine e_puti (pc := 28) 12 33 C dX12_takes_28 (by decide) (by decide) g1434 rfl rfl rfl rfl t15 ?_
    obtain ⟨h16, eh16, hf⟩ := nn_e hf
    refine e_hp eh16 ?_
    have uh16 : m_t h16 = m_t h12 := by rw [eh16]; exact rfl
    refine e_iload_n (pc := 31) C dX12_takes_31 0 rfl rfl ?_
    obtain ⟨q17, hf⟩ := ck_e hf
    obtain rfl := so_e hf
    exact e_zret (pc := 32) (v := r7) C hr (nz_ok q17) dX12_takes_32 (Nat.le_of_ble_eq_true rfl) (Nat.le_of_ble_eq_true rfl)
theorem dX12_entry_0 : decode cX12_entry 0 = .ok (.aload_n 0, 1) := by decide +kernel
theorem dX12_entry_1 : decode cX12_entry 1 = .ok (.getfield 243, 3) := by decide +kernel
theorem dX12_entry_4 : decode cX12_entry 4 = .ok (.ifCond .ne 51, 3) := by decide +kernel
theorem dX12_entry_7 : decode cX12_entry 7 = .ok (.aload_n 0, 1) := by decide +kernel
theorem dX12_entry_8 : decode cX12_entry 8 = .ok (.getfield 111, 3) := by decide +kernel
theorem dX12_entry_11 : decode cX12_entry 11 = .ok (.sipush 300, 3) := by decide +kernel
theorem dX12_entry_14 : decode cX12_entry 14 = .ok (.aload_n 0, 1) := by decide +kernel
theorem dX12_entry_15 : decode cX12_entry 15 = .ok (.getfield 273, 3) := by decide +kernel
theorem dX12_entry_18 : decode cX12_entry 18 = .ok (.imul, 1) := by decide +kernel
theorem dX12_entry_19 : decode cX12_entry 19 = .ok (.aload_n 0, 1) := by decide +kernel
theorem dX12_entry_20 : decode cX12_entry 20 = .ok (.getfield 276, 3) := by decide +kernel
theorem dX12_entry_23 : decode cX12_entry 23 = .ok (.iadd, 1) := by decide +kernel
theorem dX12_entry_24 : decode cX12_entry 24 = .ok (.iload_n 1, 1) := by decide +kernel
theorem dX12_entry_25 : decode cX12_entry 25 = .ok (.iastore, 1) := by decide +kernel
theorem dX12_entry_26 : decode cX12_entry 26 = .ok (.aload_n 0, 1) := by decide +kernel
theorem dX12_entry_27 : decode cX12_entry 27 = .ok (.getfield 114, 3) := by decide +kernel
theorem dX12_entry_30 : decode cX12_entry 30 = .ok (.sipush 300, 3) := by decide +kernel
theorem dX12_entry_33 : decode cX12_entry 33 = .ok (.aload_n 0, 1) := by decide +kernel
theorem dX12_entry_34 : decode cX12_entry 34 = .ok (.getfield 273, 3) := by decide +kernel
theorem dX12_entry_37 : decode cX12_entry 37 = .ok (.imul, 1) := by decide +kernel
theorem dX12_entry_38 : decode cX12_entry 38 = .ok (.aload_n 0, 1) := by decide +kernel
theorem dX12_entry_39 : decode cX12_entry 39 = .ok (.getfield 276, 3) := by decide +kernel
theorem dX12_entry_42 : decode cX12_entry 42 = .ok (.iadd, 1) := by decide +kernel
theorem dX12_entry_43 : decode cX12_entry 43 = .ok (.iload_n 2, 1) := by decide +kernel
theorem dX12_entry_44 : decode cX12_entry 44 = .ok (.iastore, 1) := by decide +kernel
theorem dX12_entry_45 : decode cX12_entry 45 = .ok (.aload_n 0, 1) := by decide +kernel
theorem dX12_entry_46 : decode cX12_entry 46 = .ok (.dup, 1) := by decide +kernel
theorem dX12_entry_47 : decode cX12_entry 47 = .ok (.getfield 276, 3) := by decide +kernel
theorem dX12_entry_50 : decode cX12_entry 50 = .ok (.iconst 1, 1) := by decide +kernel
theorem dX12_entry_51 : decode cX12_entry 51 = .ok (.iadd, 1) := by decide +kernel
theorem dX12_entry_52 : decode cX12_entry 52 = .ok (.putfield 276, 3) := by decide +kernel
theorem dX12_entry_55 : decode cX12_entry 55 = .ok (.return_, 1) := by decide +kernel
def f_X12_entry (G : GG) (v0 : Nat) (v1 : Int32) (v2 : Int32) (h : AH) : Option (AH) :=
ck (m_t h v0 = .inl 12) <|
if (m_i h v0 34) = 0 then (ob (m_r h v0 43) fun b3 =>
ck (ixb h b3 .int (((300 : Int32) * (m_i h v0 35)) + (m_i h v0 37)) = true) <|
nn (m_si h b3 (((300 : Int32) * (m_i h v0 35)) + (m_i h v0 37)).toNatClampNeg v1) fun h6 =>
ob (m_r h6 v0 44) fun b7 =>
ck (ixb h6 b7 .int (((300 : Int32) * (m_i h6 v0 35)) + (m_i h6 v0 37)) = true) <|
nn (m_si h6 b7 (((300 : Int32) * (m_i h6 v0 35)) + (m_i h6 v0 37)).toNatClampNeg v2) fun h10 =>
nn (m_si h10 v0 37 ((m_i h10 v0 37) + (1 : Int32))) fun h11 =>
some h11) else
some h
set_option maxHeartbeats 4000000 in
set_option maxRecDepth 100000 in
theorem ct_X12_entry {G : GG} {l : Launch} {v0 : Nat} {v1 : Int32} {v2 : Int32} {h : AH} {y : AH} (hf : f_X12_entry G v0 v1 v2 h = some y) : Ct G l yX12_entry cX12_entry 3 none 0 0 0 0 [.ref v0, .int v1, .int v2] h (none, y) := by
  refine ct_of (by decide) (Nat.le_of_ble_eq_true rfl) ?_
  intro p e s m args below meth c C hm hr hin
  have C : Cx G cX12_entry RX12 p s m args meth c := C
  refine e_lv (lv2 := [(0, .ref v0), (1, .int v1), (2, .int v2)]) [0, 1, 2] rfl ?_
  unfold f_X12_entry at hf
  refine e_aload_n (pc := 0) C dX12_entry_0 0 rfl rfl ?_
  obtain ⟨t1, hf⟩ := ck_e hf
  refine e_geti (pc := 1) 12 34 C dX12_entry_1 (by decide) (by decide) g1435 rfl t1 ?_
  rcases it_e hf with ⟨c2, hf⟩ | ⟨c2, hf⟩
  · refine e_if_ne (pc := 4) (tgt := 55) C dX12_entry_4 (by decide) (fun q => absurd c2 q) (fun _ => ?_)
    refine e_aload_n (pc := 7) C dX12_entry_7 0 rfl rfl ?_
    refine e_getr (pc := 8) 12 43 C dX12_entry_8 (by decide) (by decide) g1444 rfl t1 ?_
    obtain ⟨b3, eb3, hf⟩ := ob_e hf
    refine e_rf eb3 ?_
    refine e_sipush (v := (300 : Int32)) (pc := 11) C dX12_entry_11 (by decide) ?_
    refine e_aload_n (pc := 14) C dX12_entry_14 0 rfl rfl ?_
    refine e_geti (pc := 15) 12 35 C dX12_entry_15 (by decide) (by decide) g1436 rfl t1 ?_
    refine e_imul (pc := 18) C dX12_entry_18 ?_
    refine e_aload_n (pc := 19) C dX12_entry_19 0 rfl rfl ?_
    refine e_geti (pc := 20) 12 37 C dX12_entry_20 (by decide) (by decide) g1438 rfl t1 ?_
    refine e_iadd (pc := 23) C dX12_entry_23 ?_
    refine e_iload_n (pc := 24) C dX12_entry_24 1 rfl rfl ?_
    obtain ⟨q4, hf⟩ := ck_e hf
    obtain ⟨n5, tn5, in5⟩ := ix_e q4
    refine e_iast (pc := 25) C dX12_entry_25 tn5 in5 ?_
    obtain ⟨h6, eh6, hf⟩ := nn_e hf
    refine e_hp eh6 ?_
    have uh6 : m_t h6 = m_t h := by rw [eh6]; exact rfl
    refine e_aload_n (pc := 26) C dX12_entry_26 0 rfl rfl ?_
    refine e_getr (pc := 27) 12 44 C dX12_entry_27 (by decide) (by decide) g1445 rfl (e_mt uh6 t1) ?_
    obtain ⟨b7, eb7, hf⟩ := ob_e hf
    refine e_rf eb7 ?_
    refine e_sipush (v := (300 : Int32)) (pc := 30) C dX12_entry_30 (by decide) ?_
    refine e_aload_n (pc := 33) C dX12_entry_33 0 rfl rfl ?_
    refine e_geti (pc := 34) 12 35 C dX12_entry_34 (by decide) (by decide) g1436 rfl (e_mt uh6 t1) ?_
    refine e_imul (pc := 37) C dX12_entry_37 ?_
    refine e_aload_n (pc := 38) C dX12_entry_38 0 rfl rfl ?_
    refine e_geti (pc := 39) 12 37 C dX12_entry_39 (by decide) (by decide) g1438 rfl (e_mt uh6 t1) ?_
    refine e_iadd (pc := 42) C dX12_entry_42 ?_
    refine e_iload_n (pc := 43) C dX12_entry_43 2 rfl rfl ?_
    obtain ⟨q8, hf⟩ := ck_e hf
    obtain ⟨n9, tn9, in9⟩ := ix_e q8
    refine e_iast (pc := 44) C dX12_entry_44 tn9 in9 ?_
    obtain ⟨h10, eh10, hf⟩ := nn_e hf
    refine e_hp eh10 ?_
    have uh10 : m_t h10 = m_t h := by rw [eh10]; exact uh6
    refine e_aload_n (pc := 45) C dX12_entry_45 0 rfl rfl ?_
    refine e_dup (pc := 46) C dX12_entry_46 rfl ?_
    refine e_geti (pc := 47) 12 37 C dX12_entry_47 (by decide) (by decide) g1438 rfl (e_mt uh10 t1) ?_
    refine e_iconst (v := (1 : Int32)) (pc := 50) C dX12_entry_50 (by decide) ?_
    refine e_iadd (pc := 51) C dX12_entry_51 ?_
    refine e_puti (pc := 52) 12 37 C dX12_entry_52 (by decide) (by decide) g1438 rfl rfl rfl rfl (e_mt uh10 t1) ?_
    obtain ⟨h11, eh11, hf⟩ := nn_e hf
    refine e_hp eh11 ?_
    have uh11 : m_t h11 = m_t h := by rw [eh11]; exact uh10
    obtain rfl := so_e hf
    exact e_vret (pc := 55) C hr dX12_entry_55 (Nat.le_of_ble_eq_true rfl) (Nat.le_of_ble_eq_true rfl)
  · refine e_if_ne (pc := 4) (tgt := 55) C dX12_entry_4 (by decide) (fun _ => ?_) (fun q => absurd q c2)
    obtain rfl := so_e hf
    exact e_vret (pc := 55) C hr dX12_entry_55 (Nat.le_of_ble_eq_true rfl) (Nat.le_of_ble_eq_true rfl)
theorem dX12_isCounted_0 : decode cX12_isCounted 0 = .ok (.aload_n 0, 1) := by decide +kernel
theorem dX12_isCounted_1 : decode cX12_isCounted 1 = .ok (.getfield 279, 3) := by decide +kernel
theorem dX12_isCounted_4 : decode cX12_isCounted 4 = .ok (.bipush 60, 2) := by decide +kernel
theorem dX12_isCounted_6 : decode cX12_isCounted 6 = .ok (.if_icmp .ne 9, 3) := by decide +kernel
theorem dX12_isCounted_9 : decode cX12_isCounted 9 = .ok (.aload_n 0, 1) := by decide +kernel
theorem dX12_isCounted_10 : decode cX12_isCounted 10 = .ok (.iconst 3, 1) := by decide +kernel
theorem dX12_isCounted_11 : decode cX12_isCounted 11 = .ok (.iload_n 1, 1) := by decide +kernel
theorem dX12_isCounted_12 : decode cX12_isCounted 12 = .ok (.invokevirtual 282, 3) := by decide +kernel
theorem dX12_isCounted_15 : decode cX12_isCounted 15 = .ok (.aload_n 0, 1) := by decide +kernel
theorem dX12_isCounted_16 : decode cX12_isCounted 16 = .ok (.dup, 1) := by decide +kernel
theorem dX12_isCounted_17 : decode cX12_isCounted 17 = .ok (.getfield 279, 3) := by decide +kernel
theorem dX12_isCounted_20 : decode cX12_isCounted 20 = .ok (.iconst 1, 1) := by decide +kernel
theorem dX12_isCounted_21 : decode cX12_isCounted 21 = .ok (.iadd, 1) := by decide +kernel
theorem dX12_isCounted_22 : decode cX12_isCounted 22 = .ok (.putfield 279, 3) := by decide +kernel
theorem dX12_isCounted_25 : decode cX12_isCounted 25 = .ok (.return_, 1) := by decide +kernel
def f_X12_isCounted (G : GG) (v0 : Nat) (v1 : Int32) (h : AH) : Option (AH) :=
ck (m_t h v0 = .inl 12) <|
nn (fun (h_15 : AH) => (ck (m_t h_15 v0 = .inl 12) <|
nn (m_si h_15 v0 39 ((m_i h_15 v0 39) + (1 : Int32))) fun h3 =>
some h3)) fun j_15 =>
if (m_i h v0 39) = (60 : Int32) then (ob (f_X12_fails G v0 (3 : Int32) v1 h) fun h5 =>
j_15 h5) else
j_15 h
set_option maxHeartbeats 4000000 in
set_option maxRecDepth 100000 in
theorem ct_X12_isCounted {G : GG} {l : Launch} {v0 : Nat} {v1 : Int32} {h : AH} {y : AH} (hf : f_X12_isCounted G v0 v1 h = some y) : Ct G l yX12_isCounted cX12_isCounted 2 none 1 22 0 0 [.ref v0, .int v1] h (none, y) := by
  refine ct_of (by decide) (Nat.le_of_ble_eq_true rfl) ?_
  intro p e s m args below meth c C hm hr hin
  have C : Cx G cX12_isCounted RX12 p s m args meth c := C
  refine e_lv (lv2 := [(0, .ref v0), (1, .int v1)]) [0, 1] rfl ?_
  unfold f_X12_isCounted at hf
  refine e_aload_n (pc := 0) C dX12_isCounted_0 0 rfl rfl ?_
  obtain ⟨t1, hf⟩ := ck_e hf
  refine e_geti (pc := 1) 12 39 C dX12_isCounted_1 (by decide) (by decide) g1440 rfl t1 ?_
  refine e_bipush (v := (60 : Int32)) (pc := 4) C dX12_isCounted_4 (by decide) ?_
  obtain ⟨j_15, ej_15, hf⟩ := nn_e hf
  have W_15 : ∀ (h_15 : AH), j_15 h_15 = some y → EE G p l e ({ frames := 1, cells := 0, slots := 0, locals := 22 } : Room) s m args below meth c (none, y) 0 0 15 [(0, .ref v0)] [] h_15 0 0 := by
    intro h_15 hf
    rw [ej_15] at hf
    refine e_aload_n (pc := 15) C dX12_isCounted_15 0 rfl rfl ?_
    refine e_dup (pc := 16) C dX12_isCounted_16 rfl ?_
    obtain ⟨t2, hf⟩ := ck_e hf
    refine e_geti (pc := 17) 12 39 C dX12_isCounted_17 (by decide) (by decide) g1440 rfl t2 ?_
    refine e_iconst (v := (1 : Int32)) (pc := 20) C dX12_isCounted_20 (by decide) ?_
    refine e_iadd (pc := 21) C dX12_isCounted_21 ?_
    refine e_puti (pc := 22) 12 39 C dX12_isCounted_22 (by decide) (by decide) g1440 rfl rfl rfl rfl t2 ?_
    obtain ⟨h3, eh3, hf⟩ := nn_e hf
    refine e_hp eh3 ?_
    have uh3 : m_t h3 = m_t h_15 := by rw [eh3]; exact rfl
    obtain rfl := so_e hf
    exact e_vret (pc := 25) C hr dX12_isCounted_25 (Nat.le_of_ble_eq_true rfl) (Nat.le_of_ble_eq_true rfl)
  rcases it_e hf with ⟨c4, hf⟩ | ⟨c4, hf⟩
  · refine e_icmp_ne (pc := 6) (tgt := 15) C dX12_isCounted_6 (by decide) (fun q => absurd c4 q) (fun _ => ?_)
    refine e_aload_n (pc := 9) C dX12_isCounted_9 0 rfl rfl ?_
    refine e_iconst (v := (3 : Int32)) (pc := 10) C dX12_isCounted_10 (by decide) ?_
    refine e_iload_n (pc := 11) C dX12_isCounted_11 1 rfl rfl ?_
    obtain ⟨h5, y6, hf⟩ := ob_e hf
    refine e_callVv (pc := 12) (st := []) 12 C (ct_X12_fails y6) dX12_isCounted_12 (by decide) t1 g1710 g1712 g62 g157 g1713 hd_X12_fails rfl ⟨Nat.le_of_ble_eq_true rfl, Nat.le_of_ble_eq_true rfl⟩ ⟨Nat.le_of_ble_eq_true rfl, Nat.le_of_ble_eq_true rfl⟩ rfl (Nat.le_of_ble_eq_true rfl) ?_
    refine e_lv (lv2 := [(0, .ref v0)]) [0] rfl ?_
    exact W_15 h5 hf
  · refine e_icmp_ne (pc := 6) (tgt := 15) C dX12_isCounted_6 (by decide) (fun _ => ?_) (fun q => absurd q c4)
    refine e_lv (lv2 := [(0, .ref v0)]) [0] rfl ?_
    exact W_15 h hf
theorem dX12_digits_0 : decode cX12_digits 0 = .ok (.aload_n 0, 1) := by decide +kernel
theorem dX12_digits_1 : decode cX12_digits 1 = .ok (.invokevirtual 286, 3) := by decide +kernel
theorem dX12_digits_4 : decode cX12_digits 4 = .ok (.ifCond .ne 14, 3) := by decide +kernel
theorem dX12_digits_7 : decode cX12_digits 7 = .ok (.aload_n 0, 1) := by decide +kernel
theorem dX12_digits_8 : decode cX12_digits 8 = .ok (.iconst 0, 1) := by decide +kernel
theorem dX12_digits_9 : decode cX12_digits 9 = .ok (.aload_n 0, 1) := by decide +kernel
theorem dX12_digits_10 : decode cX12_digits 10 = .ok (.getfield 246, 3) := by decide +kernel
theorem dX12_digits_13 : decode cX12_digits 13 = .ok (.invokevirtual 282, 3) := by decide +kernel
theorem dX12_digits_16 : decode cX12_digits 16 = .ok (.iconst 0, 1) := by decide +kernel
theorem dX12_digits_17 : decode cX12_digits 17 = .ok (.ireturn, 1) := by decide +kernel
theorem dX12_digits_18 : decode cX12_digits 18 = .ok (.aload_n 0, 1) := by decide +kernel
theorem dX12_digits_19 : decode cX12_digits 19 = .ok (.getfield 246, 3) := by decide +kernel
theorem dX12_digits_22 : decode cX12_digits 22 = .ok (.istore_n 2, 1) := by decide +kernel
theorem dX12_digits_23 : decode cX12_digits 23 = .ok (.iconst 0, 1) := by decide +kernel
theorem dX12_digits_24 : decode cX12_digits 24 = .ok (.istore_n 3, 1) := by decide +kernel
theorem dX12_digits_25 : decode cX12_digits 25 = .ok (.aload_n 0, 1) := by decide +kernel
theorem dX12_digits_26 : decode cX12_digits 26 = .ok (.invokevirtual 286, 3) := by decide +kernel
theorem dX12_digits_29 : decode cX12_digits 29 = .ok (.ifCond .eq 43, 3) := by decide +kernel
theorem dX12_digits_32 : decode cX12_digits 32 = .ok (.aload_n 0, 1) := by decide +kernel
theorem dX12_digits_33 : decode cX12_digits 33 = .ok (.getfield 246, 3) := by decide +kernel
theorem dX12_digits_36 : decode cX12_digits 36 = .ok (.iload_n 2, 1) := by decide +kernel
theorem dX12_digits_37 : decode cX12_digits 37 = .ok (.isub, 1) := by decide +kernel
theorem dX12_digits_38 : decode cX12_digits 38 = .ok (.iconst 5, 1) := by decide +kernel
theorem dX12_digits_39 : decode cX12_digits 39 = .ok (.if_icmp .ge 18, 3) := by decide +kernel
theorem dX12_digits_42 : decode cX12_digits 42 = .ok (.bipush 10, 2) := by decide +kernel
theorem dX12_digits_44 : decode cX12_digits 44 = .ok (.iload_n 3, 1) := by decide +kernel
theorem dX12_digits_45 : decode cX12_digits 45 = .ok (.imul, 1) := by decide +kernel
theorem dX12_digits_46 : decode cX12_digits 46 = .ok (.aload_n 0, 1) := by decide +kernel
theorem dX12_digits_47 : decode cX12_digits 47 = .ok (.invokevirtual 249, 3) := by decide +kernel
theorem dX12_digits_50 : decode cX12_digits 50 = .ok (.iadd, 1) := by decide +kernel
theorem dX12_digits_51 : decode cX12_digits 51 = .ok (.bipush 48, 2) := by decide +kernel
theorem dX12_digits_53 : decode cX12_digits 53 = .ok (.isub, 1) := by decide +kernel
theorem dX12_digits_54 : decode cX12_digits 54 = .ok (.goto 4, 3) := by decide +kernel
theorem dX12_digits_57 : decode cX12_digits 57 = .ok (.iload_n 3, 1) := by decide +kernel
theorem dX12_digits_58 : decode cX12_digits 58 = .ok (.istore_n 3, 1) := by decide +kernel
theorem dX12_digits_59 : decode cX12_digits 59 = .ok (.aload_n 0, 1) := by decide +kernel
theorem dX12_digits_60 : decode cX12_digits 60 = .ok (.dup, 1) := by decide +kernel
theorem dX12_digits_61 : decode cX12_digits 61 = .ok (.getfield 246, 3) := by decide +kernel
theorem dX12_digits_64 : decode cX12_digits 64 = .ok (.iconst 1, 1) := by decide +kernel
theorem dX12_digits_65 : decode cX12_digits 65 = .ok (.iadd, 1) := by decide +kernel
theorem dX12_digits_66 : decode cX12_digits 66 = .ok (.putfield 246, 3) := by decide +kernel
theorem dX12_digits_69 : decode cX12_digits 69 = .ok (.goto (-44), 3) := by decide +kernel
theorem dX12_digits_72 : decode cX12_digits 72 = .ok (.aload_n 0, 1) := by decide +kernel
theorem dX12_digits_73 : decode cX12_digits 73 = .ok (.getfield 246, 3) := by decide +kernel
theorem dX12_digits_76 : decode cX12_digits 76 = .ok (.iload_n 2, 1) := by decide +kernel
theorem dX12_digits_77 : decode cX12_digits 77 = .ok (.isub, 1) := by decide +kernel
theorem dX12_digits_78 : decode cX12_digits 78 = .ok (.iconst 5, 1) := by decide +kernel
theorem dX12_digits_79 : decode cX12_digits 79 = .ok (.if_icmp .gt 8, 3) := by decide +kernel
theorem dX12_digits_82 : decode cX12_digits 82 = .ok (.iload_n 3, 1) := by decide +kernel
theorem dX12_digits_83 : decode cX12_digits 83 = .ok (.iload_n 1, 1) := by decide +kernel
theorem dX12_digits_84 : decode cX12_digits 84 = .ok (.if_icmp .le 9, 3) := by decide +kernel
theorem dX12_digits_87 : decode cX12_digits 87 = .ok (.aload_n 0, 1) := by decide +kernel
theorem dX12_digits_88 : decode cX12_digits 88 = .ok (.iconst 1, 1) := by decide +kernel
theorem dX12_digits_89 : decode cX12_digits 89 = .ok (.iload_n 2, 1) := by decide +kernel
theorem dX12_digits_90 : decode cX12_digits 90 = .ok (.invokevirtual 282, 3) := by decide +kernel
theorem dX12_digits_93 : decode cX12_digits 93 = .ok (.iload_n 3, 1) := by decide +kernel
theorem dX12_digits_94 : decode cX12_digits 94 = .ok (.ireturn, 1) := by decide +kernel
def F_X12_digits_25 (G : GG) (v0 : Nat) (v1 : Int32) (v2 : Int32) (K_72 : Int32 → AH → Option (Int32 × AH)) (self_25 : Int32 → AH → Option (Int32 × AH)) (v3 : Int32) (h : AH) : Option (Int32 × AH) :=
ck (m_t h v0 = .inl 12) <|
cb (f_X12_isDigit G v0 h) fun r14 h12 =>
if r14 = 0 then (K_72 v3 h12) else
ck (m_t h12 v0 = .inl 12) <|
nn (fun (s0_58 : Int32) (h_58 : AH) => (ck (m_t h_58 v0 = .inl 12) <|
nn (m_si h_58 v0 33 ((m_i h_58 v0 33) + (1 : Int32))) fun h18 =>
self_25 s0_58 h18)) fun j_58 =>
if (5 : Int32) ≤ ((m_i h12 v0 33) - v2) then (j_58 v3 h12) else
cb (f_X12_sign G v0 h12) fun r22 h20 =>
j_58 ((((10 : Int32) * v3) + r22) - (48 : Int32)) h20
def f_X12_digits (G : GG) (v0 : Nat) (v1 : Int32) (h : AH) : Option (Int32 × AH) :=
ck (m_t h v0 = .inl 12) <|
cb (f_X12_isDigit G v0 h) fun r4 h2 =>
if r4 = 0 then (ck (m_t h2 v0 = .inl 12) <|
ob (f_X12_fails G v0 (0 : Int32) (m_i h2 v0 33) h2) fun h7 =>
some ((0 : Int32), h7)) else
ck (m_t h2 v0 = .inl 12) <|
nn (m_i h2 v0 33) fun x10 =>
lq1 (F_X12_digits_25 G v0 v1 x10 (fun (v3_72 : Int32) (h_72 : AH) => (ck (m_t h_72 v0 = .inl 12) <|
nn (fun (uu_87 : Unit) => (ob (f_X12_fails G v0 (1 : Int32) x10 h_72) fun h24 =>
some (v3_72, h24))) fun j_87 =>
if (5 : Int32) < ((m_i h_72 v0 33) - x10) then (j_87 ()) else
if v3_72 ≤ v1 then (some (v3_72, h_72)) else
j_87 ()))) bN (0 : Int32) h2
set_option maxHeartbeats 4000000 in
set_option maxRecDepth 100000 in
theorem el_X12_digits_25 {G : GG} {p : Program} {l : Launch} {e : Env} {s : State} {m : MethodId} {args : Array Value} {below : List Frame} {meth : Method} {c : Code} {y : Int32 × AH} (C : Cx G cX12_digits RX12 p s m args meth c) (hm : c.maxLocals = 4) (hr : meth.sig.returnType = (some .int)) (hin : meth.name = yX12_digits.name) {v0 : Nat} {v1 : Int32} {v2 : Int32} {K_72 : Int32 → AH → Option (Int32 × AH)} (hK_72 : ∀ (w3 : Int32) (h : AH), K_72 w3 h = some y → EE G p l e ({ frames := 2, cells := 0, slots := 0, locals := 45 } : Room) s m args below meth c (some (.int y.1), y.2) 0 0 72 [(0, .ref v0), (1, .int v1), (2, .int v2), (3, .int w3)] [] h 0 0) :
    ∀ (n : Nat) (v3 : Int32) (h : AH), lq1 (F_X12_digits_25 G v0 v1 v2 K_72) n v3 h = some y → EE G p l e ({ frames := 2, cells := 0, slots := 0, locals := 45 } : Room) s m args below meth c (some (.int y.1), y.2) 0 0 25 [(0, .ref v0), (1, .int v1), (2, .int v2), (3, .int v3)] [] h 0 0 := by
  intro n
  induction n with
  | zero => intro v3 h hf; exact (no_e hf).elim
  | succ n ih_25 =>
    intro v3 h hf
    have hf : F_X12_digits_25 G v0 v1 v2 K_72 (lq1 (F_X12_digits_25 G v0 v1 v2 K_72) n) v3 h = some y := hf
    generalize lq1 (F_X12_digits_25 G v0 v1 v2 K_72) n = self_25 at hf ih_25
    unfold F_X12_digits_25 at hf
    refine e_aload_n (pc := 25) C dX12_digits_25 0 rfl rfl ?_
    obtain ⟨t11, hf⟩ := ck_e hf
    obtain ⟨r14, h12, y13, hf⟩ := cb_e hf
    refine e_callVi (pc := 26) (st := []) 12 C (ct_X12_isDigit y13) dX12_digits_26 (by decide) t11 g1731 g1733 g67 g157 g1734 hd_X12_isDigit rfl ⟨Nat.le_of_ble_eq_true rfl, Nat.le_of_ble_eq_true rfl⟩ ⟨Nat.le_of_ble_eq_true rfl, Nat.le_of_ble_eq_true rfl⟩ rfl (Nat.le_of_ble_eq_true rfl) ?_
    rcases it_e hf with ⟨c15, hf⟩ | ⟨c15, hf⟩
    · refine e_if_eq (pc := 29) (tgt := 72) C dX12_digits_29 (by decide) (fun _ => ?_) (fun q => absurd c15 q)
      exact hK_72 v3 h12 hf
    · refine e_if_eq (pc := 29) (tgt := 72) C dX12_digits_29 (by decide) (fun q => absurd q c15) (fun _ => ?_)
      refine e_aload_n (pc := 32) C dX12_digits_32 0 rfl rfl ?_
      obtain ⟨t16, hf⟩ := ck_e hf
      refine e_geti (pc := 33) 12 33 C dX12_digits_33 (by decide) (by decide) g1434 rfl t16 ?_
      refine e_iload_n (pc := 36) C dX12_digits_36 2 rfl rfl ?_
      refine e_isub (pc := 37) C dX12_digits_37 ?_
      refine e_iconst (v := (5 : Int32)) (pc := 38) C dX12_digits_38 (by decide) ?_
      obtain ⟨j_58, ej_58, hf⟩ := nn_e hf
      have W_58 : ∀ (s0_58 : Int32) (h_58 : AH), j_58 s0_58 h_58 = some y → EE G p l e ({ frames := 2, cells := 0, slots := 0, locals := 45 } : Room) s m args below meth c (some (.int y.1), y.2) 0 0 58 [(0, .ref v0), (1, .int v1), (2, .int v2)] [.int s0_58] h_58 0 0 := by
        intro s0_58 h_58 hf
        rw [ej_58] at hf
        refine e_istore_n (pc := 58) (lv2 := [(3, .int s0_58), (0, .ref v0), (1, .int v1), (2, .int v2)]) C hm dX12_digits_58 rfl (by decide) rfl ?_
        refine e_aload_n (pc := 59) C dX12_digits_59 1 rfl rfl ?_
        refine e_dup (pc := 60) C dX12_digits_60 rfl ?_
        obtain ⟨t17, hf⟩ := ck_e hf
        refine e_geti (pc := 61) 12 33 C dX12_digits_61 (by decide) (by decide) g1434 rfl t17 ?_
        refine e_iconst (v := (1 : Int32)) (pc := 64) C dX12_digits_64 (by decide) ?_
        refine e_iadd (pc := 65) C dX12_digits_65 ?_
        refine e_puti (pc := 66) 12 33 C dX12_digits_66 (by decide) (by decide) g1434 rfl rfl rfl rfl t17 ?_
        obtain ⟨h18, eh18, hf⟩ := nn_e hf
        refine e_hp eh18 ?_
        have uh18 : m_t h18 = m_t h_58 := by rw [eh18]; exact rfl
        refine e_goto (pc := 69) (tgt := 25) C dX12_digits_69 (by decide) ?_
        refine e_lv (lv2 := [(0, .ref v0), (1, .int v1), (2, .int v2), (3, .int s0_58)]) [1, 2, 3, 0] rfl ?_
        exact ih_25 s0_58 h18 hf
      rcases it_e hf with ⟨c19, hf⟩ | ⟨c19, hf⟩
      · refine e_icmp_ge (pc := 39) (tgt := 57) C dX12_digits_39 (by decide) (fun _ => ?_) (fun q => absurd c19 q)
        refine e_iload_n (pc := 57) C dX12_digits_57 3 rfl rfl ?_
        refine e_lv (lv2 := [(0, .ref v0), (1, .int v1), (2, .int v2)]) [0, 1, 2] rfl ?_
        exact W_58 v3 h12 hf
      · refine e_icmp_ge (pc := 39) (tgt := 57) C dX12_digits_39 (by decide) (fun q => absurd q c19) (fun _ => ?_)
        refine e_bipush (v := (10 : Int32)) (pc := 42) C dX12_digits_42 (by decide) ?_
        refine e_iload_n (pc := 44) C dX12_digits_44 3 rfl rfl ?_
        refine e_imul (pc := 45) C dX12_digits_45 ?_
        refine e_aload_n (pc := 46) C dX12_digits_46 0 rfl rfl ?_
        obtain ⟨r22, h20, y21, hf⟩ := cb_e hf
        refine e_callVi (pc := 47) (st := [.int ((10 : Int32) * v3)]) 12 C (ct_X12_sign y21) dX12_digits_47 (by decide) t16 g1690 g1692 g60 g157 g1693 hd_X12_sign rfl ⟨Nat.le_of_ble_eq_true rfl, Nat.le_of_ble_eq_true rfl⟩ ⟨Nat.le_of_ble_eq_true rfl, Nat.le_of_ble_eq_true rfl⟩ rfl (Nat.le_of_ble_eq_true rfl) ?_
        refine e_iadd (pc := 50) C dX12_digits_50 ?_
        refine e_bipush (v := (48 : Int32)) (pc := 51) C dX12_digits_51 (by decide) ?_
        refine e_isub (pc := 53) C dX12_digits_53 ?_
        refine e_goto (pc := 54) (tgt := 58) C dX12_digits_54 (by decide) ?_
        refine e_lv (lv2 := [(0, .ref v0), (1, .int v1), (2, .int v2)]) [0, 1, 2] rfl ?_
        exact W_58 ((((10 : Int32) * v3) + r22) - (48 : Int32)) h20 hf
set_option maxHeartbeats 4000000 in
set_option maxRecDepth 100000 in
theorem ct_X12_digits {G : GG} {l : Launch} {v0 : Nat} {v1 : Int32} {h : AH} {y : Int32 × AH} (hf : f_X12_digits G v0 v1 h = some y) : Ct G l yX12_digits cX12_digits 4 (some .int) 2 45 0 0 [.ref v0, .int v1] h (some (.int y.1), y.2) := by
  refine ct_of (by decide) (Nat.le_of_ble_eq_true rfl) ?_
  intro p e s m args below meth c C hm hr hin
  have C : Cx G cX12_digits RX12 p s m args meth c := C
  refine e_lv (lv2 := [(0, .ref v0), (1, .int v1)]) [0, 1] rfl ?_
  unfold f_X12_digits at hf
  refine e_aload_n (pc := 0) C dX12_digits_0 0 rfl rfl ?_
  obtain ⟨t1, hf⟩ := ck_e hf
  obtain ⟨r4, h2, y3, hf⟩ := cb_e hf
  refine e_callVi (pc := 1) (st := []) 12 C (ct_X12_isDigit y3) dX12_digits_1 (by decide) t1 g1731 g1733 g67 g157 g1734 hd_X12_isDigit rfl ⟨Nat.le_of_ble_eq_true rfl, Nat.le_of_ble_eq_true rfl⟩ ⟨Nat.le_of_ble_eq_true rfl, Nat.le_of_ble_eq_true rfl⟩ rfl (Nat.le_of_ble_eq_true rfl) ?_
  rcases it_e hf with ⟨c5, hf⟩ | ⟨c5, hf⟩
  · refine e_if_ne (pc := 4) (tgt := 18) C dX12_digits_4 (by decide) (fun q => absurd c5 q) (fun _ => ?_)
    refine e_aload_n (pc := 7) C dX12_digits_7 0 rfl rfl ?_
    refine e_iconst (v := (0 : Int32)) (pc := 8) C dX12_digits_8 (by decide) ?_
    refine e_aload_n (pc := 9) C dX12_digits_9 0 rfl rfl ?_
    obtain ⟨t6, hf⟩ := ck_e hf
    refine e_geti (pc := 10) 12 33 C dX12_digits_10 (by decide) (by decide) g1434 rfl t6 ?_
    obtain ⟨h7, y8, hf⟩ := ob_e hf
    refine e_callVv (pc := 13) (st := []) 12 C (ct_X12_fails y8) dX12_digits_13 (by decide) t6 g1710 g1712 g62 g157 g1713 hd_X12_fails rfl ⟨Nat.le_of_ble_eq_true rfl, Nat.le_of_ble_eq_true rfl⟩ ⟨Nat.le_of_ble_eq_true rfl, Nat.le_of_ble_eq_true rfl⟩ rfl (Nat.le_of_ble_eq_true rfl) ?_
    refine e_iconst (v := (0 : Int32)) (pc := 16) C dX12_digits_16 (by decide) ?_
    obtain rfl := so_e hf
    exact e_iret (pc := 17) C hr dX12_digits_17 (Nat.le_of_ble_eq_true rfl) (Nat.le_of_ble_eq_true rfl)
  · refine e_if_ne (pc := 4) (tgt := 18) C dX12_digits_4 (by decide) (fun _ => ?_) (fun q => absurd q c5)
    refine e_aload_n (pc := 18) C dX12_digits_18 0 rfl rfl ?_
    obtain ⟨t9, hf⟩ := ck_e hf
    refine e_geti (pc := 19) 12 33 C dX12_digits_19 (by decide) (by decide) g1434 rfl t9 ?_
    obtain ⟨x10, ex10, hf⟩ := nn_e hf
    refine e_topi ex10 ?_
    refine e_istore_n (pc := 22) (lv2 := [(2, .int x10), (0, .ref v0), (1, .int v1)]) C hm dX12_digits_22 rfl (by decide) rfl ?_
    refine e_iconst (v := (0 : Int32)) (pc := 23) C dX12_digits_23 (by decide) ?_
    refine e_istore_n (pc := 24) (lv2 := [(3, .int (0 : Int32)), (2, .int x10), (0, .ref v0), (1, .int v1)]) C hm dX12_digits_24 rfl (by decide) rfl ?_
    refine e_lv (lv2 := [(0, .ref v0), (1, .int v1), (2, .int x10), (3, .int (0 : Int32))]) [2, 3, 1, 0] rfl ?_
    refine el_X12_digits_25 C hm hr hin (fun v3_72 h_72 hf => ?_) bN (0 : Int32) h2 hf
    refine e_aload_n (pc := 72) C dX12_digits_72 0 rfl rfl ?_
    obtain ⟨t23, hf⟩ := ck_e hf
    refine e_geti (pc := 73) 12 33 C dX12_digits_73 (by decide) (by decide) g1434 rfl t23 ?_
    refine e_iload_n (pc := 76) C dX12_digits_76 2 rfl rfl ?_
    refine e_isub (pc := 77) C dX12_digits_77 ?_
    refine e_iconst (v := (5 : Int32)) (pc := 78) C dX12_digits_78 (by decide) ?_
    obtain ⟨j_87, ej_87, hf⟩ := nn_e hf
    have W_87 : ∀ (uu_87 : Unit), j_87 uu_87 = some y → EE G p l e ({ frames := 2, cells := 0, slots := 0, locals := 45 } : Room) s m args below meth c (some (.int y.1), y.2) 0 0 87 [(0, .ref v0), (2, .int x10), (3, .int v3_72)] [] h_72 0 0 := by
      intro uu_87 hf
      rw [ej_87] at hf
      refine e_aload_n (pc := 87) C dX12_digits_87 0 rfl rfl ?_
      refine e_iconst (v := (1 : Int32)) (pc := 88) C dX12_digits_88 (by decide) ?_
      refine e_iload_n (pc := 89) C dX12_digits_89 1 rfl rfl ?_
      obtain ⟨h24, y25, hf⟩ := ob_e hf
      refine e_callVv (pc := 90) (st := []) 12 C (ct_X12_fails y25) dX12_digits_90 (by decide) t23 g1710 g1712 g62 g157 g1713 hd_X12_fails rfl ⟨Nat.le_of_ble_eq_true rfl, Nat.le_of_ble_eq_true rfl⟩ ⟨Nat.le_of_ble_eq_true rfl, Nat.le_of_ble_eq_true rfl⟩ rfl (Nat.le_of_ble_eq_true rfl) ?_
      refine e_iload_n (pc := 93) C dX12_digits_93 2 rfl rfl ?_
      obtain rfl := so_e hf
      exact e_iret (pc := 94) C hr dX12_digits_94 (Nat.le_of_ble_eq_true rfl) (Nat.le_of_ble_eq_true rfl)
    rcases it_e hf with ⟨c26, hf⟩ | ⟨c26, hf⟩
    · refine e_icmp_gt (pc := 79) (tgt := 87) C dX12_digits_79 (by decide) (fun _ => ?_) (fun q => absurd c26 q)
      refine e_lv (lv2 := [(0, .ref v0), (2, .int x10), (3, .int v3_72)]) [0, 2, 3] rfl ?_
      exact W_87 () hf
    · refine e_icmp_gt (pc := 79) (tgt := 87) C dX12_digits_79 (by decide) (fun q => absurd q c26) (fun _ => ?_)
      refine e_iload_n (pc := 82) C dX12_digits_82 3 rfl rfl ?_
      refine e_iload_n (pc := 83) C dX12_digits_83 1 rfl rfl ?_
      rcases it_e hf with ⟨c27, hf⟩ | ⟨c27, hf⟩
      · refine e_icmp_le (pc := 84) (tgt := 93) C dX12_digits_84 (by decide) (fun _ => ?_) (fun q => absurd c27 q)
        refine e_iload_n (pc := 93) C dX12_digits_93 3 rfl rfl ?_
        obtain rfl := so_e hf
        exact e_iret (pc := 94) C hr dX12_digits_94 (Nat.le_of_ble_eq_true rfl) (Nat.le_of_ble_eq_true rfl)
      · refine e_icmp_le (pc := 84) (tgt := 93) C dX12_digits_84 (by decide) (fun q => absurd q c27) (fun _ => ?_)
        refine e_lv (lv2 := [(0, .ref v0), (2, .int x10), (3, .int v3_72)]) [0, 2, 3] rfl ?_
        exact W_87 () hf
theorem dX12_value_0 : decode cX12_value 0 = .ok (.aload_n 0, 1) := by decide +kernel
theorem dX12_value_1 : decode cX12_value 1 = .ok (.invokevirtual 266, 3) := by decide +kernel
theorem dX12_value_4 : decode cX12_value 4 = .ok (.aload_n 0, 1) := by decide +kernel
theorem dX12_value_5 : decode cX12_value 5 = .ok (.getfield 246, 3) := by decide +kernel
theorem dX12_value_8 : decode cX12_value 8 = .ok (.istore_n 1, 1) := by decide +kernel
theorem dX12_value_9 : decode cX12_value 9 = .ok (.aload_n 0, 1) := by decide +kernel
theorem dX12_value_10 : decode cX12_value 10 = .ok (.invokevirtual 286, 3) := by decide +kernel
theorem dX12_value_13 : decode cX12_value 13 = .ok (.ifCond .eq 23, 3) := by decide +kernel
theorem dX12_value_16 : decode cX12_value 16 = .ok (.aload_n 0, 1) := by decide +kernel
theorem dX12_value_17 : decode cX12_value 17 = .ok (.ldc_w 290, 3) := by decide +kernel
theorem dX12_value_20 : decode cX12_value 20 = .ok (.invokevirtual 291, 3) := by decide +kernel
theorem dX12_value_23 : decode cX12_value 23 = .ok (.istore_n 2, 1) := by decide +kernel
theorem dX12_value_24 : decode cX12_value 24 = .ok (.aload_n 0, 1) := by decide +kernel
theorem dX12_value_25 : decode cX12_value 25 = .ok (.iload_n 1, 1) := by decide +kernel
theorem dX12_value_26 : decode cX12_value 26 = .ok (.invokevirtual 295, 3) := by decide +kernel
theorem dX12_value_29 : decode cX12_value 29 = .ok (.aload_n 0, 1) := by decide +kernel
theorem dX12_value_30 : decode cX12_value 30 = .ok (.iconst 0, 1) := by decide +kernel
theorem dX12_value_31 : decode cX12_value 31 = .ok (.iload_n 2, 1) := by decide +kernel
theorem dX12_value_32 : decode cX12_value 32 = .ok (.invokevirtual 298, 3) := by decide +kernel
theorem dX12_value_35 : decode cX12_value 35 = .ok (.return_, 1) := by decide +kernel
theorem dX12_value_36 : decode cX12_value 36 = .ok (.iconst 0, 1) := by decide +kernel
theorem dX12_value_37 : decode cX12_value 37 = .ok (.istore_n 2, 1) := by decide +kernel
theorem dX12_value_38 : decode cX12_value 38 = .ok (.iload_n 2, 1) := by decide +kernel
theorem dX12_value_39 : decode cX12_value 39 = .ok (.aload_n 0, 1) := by decide +kernel
theorem dX12_value_40 : decode cX12_value 40 = .ok (.getfield 103, 3) := by decide +kernel
theorem dX12_value_43 : decode cX12_value 43 = .ok (.if_icmp .ge 20, 3) := by decide +kernel
theorem dX12_value_46 : decode cX12_value 46 = .ok (.aload_n 0, 1) := by decide +kernel
theorem dX12_value_47 : decode cX12_value 47 = .ok (.iload_n 2, 1) := by decide +kernel
theorem dX12_value_48 : decode cX12_value 48 = .ok (.invokestatic 301, 3) := by decide +kernel
theorem dX12_value_51 : decode cX12_value 51 = .ok (.invokevirtual 269, 3) := by decide +kernel
theorem dX12_value_54 : decode cX12_value 54 = .ok (.ifCond .ne 9, 3) := by decide +kernel
theorem dX12_value_57 : decode cX12_value 57 = .ok (.iinc 2 1, 3) := by decide +kernel
theorem dX12_value_60 : decode cX12_value 60 = .ok (.goto (-22), 3) := by decide +kernel
theorem dX12_value_63 : decode cX12_value 63 = .ok (.iload_n 2, 1) := by decide +kernel
theorem dX12_value_64 : decode cX12_value 64 = .ok (.aload_n 0, 1) := by decide +kernel
theorem dX12_value_65 : decode cX12_value 65 = .ok (.getfield 103, 3) := by decide +kernel
theorem dX12_value_68 : decode cX12_value 68 = .ok (.if_icmp .ne 10, 3) := by decide +kernel
theorem dX12_value_71 : decode cX12_value 71 = .ok (.aload_n 0, 1) := by decide +kernel
theorem dX12_value_72 : decode cX12_value 72 = .ok (.iconst 0, 1) := by decide +kernel
theorem dX12_value_73 : decode cX12_value 73 = .ok (.iload_n 1, 1) := by decide +kernel
theorem dX12_value_74 : decode cX12_value 74 = .ok (.invokevirtual 282, 3) := by decide +kernel
theorem dX12_value_77 : decode cX12_value 77 = .ok (.return_, 1) := by decide +kernel
theorem dX12_value_78 : decode cX12_value 78 = .ok (.aload_n 0, 1) := by decide +kernel
theorem dX12_value_79 : decode cX12_value 79 = .ok (.iload_n 1, 1) := by decide +kernel
theorem dX12_value_80 : decode cX12_value 80 = .ok (.invokevirtual 295, 3) := by decide +kernel
theorem dX12_value_83 : decode cX12_value 83 = .ok (.aload_n 0, 1) := by decide +kernel
theorem dX12_value_84 : decode cX12_value 84 = .ok (.dup, 1) := by decide +kernel
theorem dX12_value_85 : decode cX12_value 85 = .ok (.getfield 246, 3) := by decide +kernel
theorem dX12_value_88 : decode cX12_value 88 = .ok (.iload_n 2, 1) := by decide +kernel
theorem dX12_value_89 : decode cX12_value 89 = .ok (.invokestatic 301, 3) := by decide +kernel
theorem dX12_value_92 : decode cX12_value 92 = .ok (.invokevirtual 257, 3) := by decide +kernel
theorem dX12_value_95 : decode cX12_value 95 = .ok (.iadd, 1) := by decide +kernel
theorem dX12_value_96 : decode cX12_value 96 = .ok (.putfield 246, 3) := by decide +kernel
theorem dX12_value_99 : decode cX12_value 99 = .ok (.aload_n 0, 1) := by decide +kernel
theorem dX12_value_100 : decode cX12_value 100 = .ok (.iconst 1, 1) := by decide +kernel
theorem dX12_value_101 : decode cX12_value 101 = .ok (.iload_n 2, 1) := by decide +kernel
theorem dX12_value_102 : decode cX12_value 102 = .ok (.invokevirtual 298, 3) := by decide +kernel
theorem dX12_value_105 : decode cX12_value 105 = .ok (.return_, 1) := by decide +kernel
def F_X12_value_38 (G : GG) (v0 : Nat) (v1 : Int32) (K_63 : Int32 → AH → Option (AH)) (self_38 : Int32 → AH → Option (AH)) (v2 : Int32) (h : AH) : Option (AH) :=
ck (m_t h v0 = .inl 12) <|
if (m_i h v0 41) ≤ v2 then (K_63 v2 h) else
cb (f_X12_wordOf G v2 h) fun r14 h12 =>
ck (m_t h12 v0 = .inl 12) <|
cb (f_X12_stood G v0 r14 h12) fun r18 h16 =>
if r18 = 0 then (nn (v2 + (1 : Int32)) fun x20 =>
self_38 x20 h16) else
K_63 v2 h16
def f_X12_value (G : GG) (v0 : Nat) (h : AH) : Option (AH) :=
ck (m_t h v0 = .inl 12) <|
ob (f_X12_blanks G v0 h) fun h2 =>
ck (m_t h2 v0 = .inl 12) <|
nn (m_i h2 v0 33) fun x5 =>
cb (f_X12_isDigit G v0 h2) fun r8 h6 =>
if r8 = 0 then (lq1 (F_X12_value_38 G v0 x5 (fun (v2_63 : Int32) (h_63 : AH) => (ck (m_t h_63 v0 = .inl 12) <|
if v2_63 = (m_i h_63 v0 41) then (ob (f_X12_fails G v0 (0 : Int32) x5 h_63) fun h23 =>
some h23) else
ob (f_X12_isCounted G v0 x5 h_63) fun h25 =>
ck (m_t h25 v0 = .inl 12) <|
cb (f_X12_wordOf G v2_63 h25) fun r30 h28 =>
cb (f_J0_length_8abf5 G r30 h28) fun r33 h31 =>
ck (m_t h31 v0 = .inl 12) <|
nn (m_si h31 v0 33 ((m_i h25 v0 33) + r33)) fun h35 =>
ob (f_X12_entry G v0 (1 : Int32) v2_63 h35) fun h36 =>
some h36))) bN (0 : Int32) h6) else
ck (m_t h6 v0 = .inl 12) <|
cb (f_X12_digits G v0 (99999 : Int32) h6) fun r41 h39 =>
ck (m_t h39 v0 = .inl 12) <|
ob (f_X12_isCounted G v0 x5 h39) fun h43 =>
ck (m_t h43 v0 = .inl 12) <|
ob (f_X12_entry G v0 (0 : Int32) r41 h43) fun h46 =>
some h46
set_option maxHeartbeats 4000000 in
set_option maxRecDepth 100000 in
theorem el_X12_value_38 {G : GG} {p : Program} {l : Launch} {e : Env} {s : State} {m : MethodId} {args : Array Value} {below : List Frame} {meth : Method} {c : Code} {y : AH} (C : Cx G cX12_value RX12 p s m args meth c) (hm : c.maxLocals = 3) (hr : meth.sig.returnType = none) (hin : meth.name = yX12_value.name) {v0 : Nat} {v1 : Int32} {K_63 : Int32 → AH → Option (AH)} (hK_63 : ∀ (w2 : Int32) (h : AH), K_63 w2 h = some y → EE G p l e ({ frames := 5, cells := 0, slots := 0, locals := 109 } : Room) s m args below meth c (none, y) 0 0 63 [(0, .ref v0), (1, .int v1), (2, .int w2)] [] h 0 0) :
    ∀ (n : Nat) (v2 : Int32) (h : AH), lq1 (F_X12_value_38 G v0 v1 K_63) n v2 h = some y → EE G p l e ({ frames := 5, cells := 0, slots := 0, locals := 109 } : Room) s m args below meth c (none, y) 0 0 38 [(0, .ref v0), (1, .int v1), (2, .int v2)] [] h 0 0 := by
  intro n
  induction n with
  | zero => intro v2 h hf; exact (no_e hf).elim
  | succ n ih_38 =>
    intro v2 h hf
    have hf : F_X12_value_38 G v0 v1 K_63 (lq1 (F_X12_value_38 G v0 v1 K_63) n) v2 h = some y := hf
    generalize lq1 (F_X12_value_38 G v0 v1 K_63) n = self_38 at hf ih_38
    unfold F_X12_value_38 at hf
    refine e_iload_n (pc := 38) C dX12_value_38 2 rfl rfl ?_
    refine e_aload_n (pc := 39) C dX12_value_39 0 rfl rfl ?_
    obtain ⟨t10, hf⟩ := ck_e hf
    refine e_geti (pc := 40) 12 41 C dX12_value_40 (by decide) (by decide) g1442 rfl t10 ?_
    rcases it_e hf with ⟨c11, hf⟩ | ⟨c11, hf⟩
    · refine e_icmp_ge (pc := 43) (tgt := 63) C dX12_value_43 (by decide) (fun _ => ?_) (fun q => absurd c11 q)
      exact hK_63 v2 h hf
    · refine e_icmp_ge (pc := 43) (tgt := 63) C dX12_value_43 (by decide) (fun q => absurd q c11) (fun _ => ?_)
      refine e_aload_n (pc := 46) C dX12_value_46 0 rfl rfl ?_
      refine e_iload_n (pc := 47) C dX12_value_47 2 rfl rfl ?_
      obtain ⟨r14, h12, y13, hf⟩ := cb_e hf
      refine e_callSi (pc := 48) (st := [.ref v0]) C (ct_X12_wordOf y13) dX12_value_48 g1811 g1812 g157 g1813 hd_X12_wordOf rfl ⟨Nat.le_of_ble_eq_true rfl, Nat.le_of_ble_eq_true rfl⟩ ⟨Nat.le_of_ble_eq_true rfl, Nat.le_of_ble_eq_true rfl⟩ rfl (Nat.le_of_ble_eq_true rfl) ?_
      obtain ⟨t15, hf⟩ := ck_e hf
      obtain ⟨r18, h16, y17, hf⟩ := cb_e hf
      refine e_callVi (pc := 51) (st := []) 12 C (ct_X12_stood y17) dX12_value_51 (by decide) t15 g1704 g1706 g61 g157 g1707 hd_X12_stood rfl ⟨Nat.le_of_ble_eq_true rfl, Nat.le_of_ble_eq_true rfl⟩ ⟨Nat.le_of_ble_eq_true rfl, Nat.le_of_ble_eq_true rfl⟩ rfl (Nat.le_of_ble_eq_true rfl) ?_
      rcases it_e hf with ⟨c19, hf⟩ | ⟨c19, hf⟩
      · refine e_if_ne (pc := 54) (tgt := 63) C dX12_value_54 (by decide) (fun q => absurd c19 q) (fun _ => ?_)
        obtain ⟨x20, ex20, hf⟩ := nn_e hf
        refine e_iinc (pc := 57) (v := x20) (lv2 := [(2, .int x20), (0, .ref v0), (1, .int v1)]) C hm dX12_value_57 2 rfl (by rw [ex20]; rfl) (by decide) rfl ?_
        refine e_goto (pc := 60) (tgt := 38) C dX12_value_60 (by decide) ?_
        refine e_lv (lv2 := [(0, .ref v0), (1, .int v1), (2, .int x20)]) [1, 2, 0] rfl ?_
        exact ih_38 x20 h16 hf
      · refine e_if_ne (pc := 54) (tgt := 63) C dX12_value_54 (by decide) (fun _ => ?_) (fun q => absurd q c19)
        exact hK_63 v2 h16 hf
set_option maxHeartbeats 4000000 in
set_option maxRecDepth 100000 in
theorem ct_X12_value {G : GG} {l : Launch} {v0 : Nat} {h : AH} {y : AH} (hf : f_X12_value G v0 h = some y) : Ct G l yX12_value cX12_value 3 none 5 109 0 0 [.ref v0] h (none, y) := by
  refine ct_of (by decide) (Nat.le_of_ble_eq_true rfl) ?_
  intro p e s m args below meth c C hm hr hin
  have C : Cx G cX12_value RX12 p s m args meth c := C
  refine e_lv (lv2 := [(0, .ref v0)]) [0] rfl ?_
  unfold f_X12_value at hf
  refine e_aload_n (pc := 0) C dX12_value_0 0 rfl rfl ?_
  obtain ⟨t1, hf⟩ := ck_e hf
  obtain ⟨h2, y3, hf⟩ := ob_e hf
  refine e_callVv (pc := 1) (st := []) 12 C (ct_X12_blanks y3) dX12_value_1 (by decide) t1 g1686 g1688 g59 g157 g1689 hd_X12_blanks rfl ⟨Nat.le_of_ble_eq_true rfl, Nat.le_of_ble_eq_true rfl⟩ ⟨Nat.le_of_ble_eq_true rfl, Nat.le_of_ble_eq_true rfl⟩ rfl (Nat.le_of_ble_eq_true rfl) ?_
  refine e_aload_n (pc := 4) C dX12_value_4 0 rfl rfl ?_
  obtain ⟨t4, hf⟩ := ck_e hf
  refine e_geti (pc := 5) 12 33 C dX12_value_5 (by decide) (by decide) g1434 rfl t4 ?_
  obtain ⟨x5, ex5, hf⟩ := nn_e hf
  refine e_topi ex5 ?_
  refine e_istore_n (pc := 8) (lv2 := [(1, .int x5), (0, .ref v0)]) C hm dX12_value_8 rfl (by decide) rfl ?_
  refine e_aload_n (pc := 9) C dX12_value_9 1 rfl rfl ?_
  obtain ⟨r8, h6, y7, hf⟩ := cb_e hf
  refine e_callVi (pc := 10) (st := []) 12 C (ct_X12_isDigit y7) dX12_value_10 (by decide) t4 g1731 g1733 g67 g157 g1734 hd_X12_isDigit rfl ⟨Nat.le_of_ble_eq_true rfl, Nat.le_of_ble_eq_true rfl⟩ ⟨Nat.le_of_ble_eq_true rfl, Nat.le_of_ble_eq_true rfl⟩ rfl (Nat.le_of_ble_eq_true rfl) ?_
  rcases it_e hf with ⟨c9, hf⟩ | ⟨c9, hf⟩
  · refine e_if_eq (pc := 13) (tgt := 36) C dX12_value_13 (by decide) (fun _ => ?_) (fun q => absurd c9 q)
    refine e_iconst (v := (0 : Int32)) (pc := 36) C dX12_value_36 (by decide) ?_
    refine e_istore_n (pc := 37) (lv2 := [(2, .int (0 : Int32)), (1, .int x5), (0, .ref v0)]) C hm dX12_value_37 rfl (by decide) rfl ?_
    refine e_lv (lv2 := [(0, .ref v0), (1, .int x5), (2, .int (0 : Int32))]) [2, 1, 0] rfl ?_
    refine el_X12_value_38 C hm hr hin (fun v2_63 h_63 hf => ?_) bN (0 : Int32) h6 hf
    refine e_iload_n (pc := 63) C dX12_value_63 2 rfl rfl ?_
    refine e_aload_n (pc := 64) C dX12_value_64 0 rfl rfl ?_
    obtain ⟨t21, hf⟩ := ck_e hf
    refine e_geti (pc := 65) 12 41 C dX12_value_65 (by decide) (by decide) g1442 rfl t21 ?_
    rcases it_e hf with ⟨c22, hf⟩ | ⟨c22, hf⟩
    · refine e_icmp_ne (pc := 68) (tgt := 78) C dX12_value_68 (by decide) (fun q => absurd c22 q) (fun _ => ?_)
      refine e_aload_n (pc := 71) C dX12_value_71 0 rfl rfl ?_
      refine e_iconst (v := (0 : Int32)) (pc := 72) C dX12_value_72 (by decide) ?_
      refine e_iload_n (pc := 73) C dX12_value_73 1 rfl rfl ?_
      obtain ⟨h23, y24, hf⟩ := ob_e hf
      refine e_callVv (pc := 74) (st := []) 12 C (ct_X12_fails y24) dX12_value_74 (by decide) t21 g1710 g1712 g62 g157 g1713 hd_X12_fails rfl ⟨Nat.le_of_ble_eq_true rfl, Nat.le_of_ble_eq_true rfl⟩ ⟨Nat.le_of_ble_eq_true rfl, Nat.le_of_ble_eq_true rfl⟩ rfl (Nat.le_of_ble_eq_true rfl) ?_
      obtain rfl := so_e hf
      exact e_vret (pc := 77) C hr dX12_value_77 (Nat.le_of_ble_eq_true rfl) (Nat.le_of_ble_eq_true rfl)
    · refine e_icmp_ne (pc := 68) (tgt := 78) C dX12_value_68 (by decide) (fun _ => ?_) (fun q => absurd q c22)
      refine e_aload_n (pc := 78) C dX12_value_78 0 rfl rfl ?_
      refine e_iload_n (pc := 79) C dX12_value_79 1 rfl rfl ?_
      obtain ⟨h25, y26, hf⟩ := ob_e hf
      refine e_callVv (pc := 80) (st := []) 12 C (ct_X12_isCounted y26) dX12_value_80 (by decide) t21 g1803 g1805 g81 g157 g1806 hd_X12_isCounted rfl ⟨Nat.le_of_ble_eq_true rfl, Nat.le_of_ble_eq_true rfl⟩ ⟨Nat.le_of_ble_eq_true rfl, Nat.le_of_ble_eq_true rfl⟩ rfl (Nat.le_of_ble_eq_true rfl) ?_
      refine e_aload_n (pc := 83) C dX12_value_83 0 rfl rfl ?_
      refine e_dup (pc := 84) C dX12_value_84 rfl ?_
      obtain ⟨t27, hf⟩ := ck_e hf
      refine e_geti (pc := 85) 12 33 C dX12_value_85 (by decide) (by decide) g1434 rfl t27 ?_
      refine e_iload_n (pc := 88) C dX12_value_88 2 rfl rfl ?_
      obtain ⟨r30, h28, y29, hf⟩ := cb_e hf
      refine e_callSi (pc := 89) (st := [.int (m_i h25 v0 33), .ref v0]) C (ct_X12_wordOf y29) dX12_value_89 g1811 g1812 g157 g1813 hd_X12_wordOf rfl ⟨Nat.le_of_ble_eq_true rfl, Nat.le_of_ble_eq_true rfl⟩ ⟨Nat.le_of_ble_eq_true rfl, Nat.le_of_ble_eq_true rfl⟩ rfl (Nat.le_of_ble_eq_true rfl) ?_
      obtain ⟨r33, h31, y32, hf⟩ := cb_e hf
      refine e_callK (pc := 92) (st := [.int (m_i h25 v0 33), .ref v0]) (sq_J0_length_8abf5 y32) C (ct_J0_length_8abf5 y32) dX12_value_92 g1708 g663 g664 g158 g665 hd_J0_length_8abf5 rfl ⟨Nat.le_of_ble_eq_true rfl, Nat.le_of_ble_eq_true rfl⟩ ⟨Nat.le_of_ble_eq_true rfl, Nat.le_of_ble_eq_true rfl⟩ rfl (Nat.le_of_ble_eq_true rfl) ?_
      refine e_iadd (pc := 95) C dX12_value_95 ?_
      obtain ⟨t34, hf⟩ := ck_e hf
      refine e_puti (pc := 96) 12 33 C dX12_value_96 (by decide) (by decide) g1434 rfl rfl rfl rfl t34 ?_
      obtain ⟨h35, eh35, hf⟩ := nn_e hf
      refine e_hp eh35 ?_
      have uh35 : m_t h35 = m_t h31 := by rw [eh35]; exact rfl
      refine e_aload_n (pc := 99) C dX12_value_99 0 rfl rfl ?_
      refine e_iconst (v := (1 : Int32)) (pc := 100) C dX12_value_100 (by decide) ?_
      refine e_iload_n (pc := 101) C dX12_value_101 2 rfl rfl ?_
      obtain ⟨h36, y37, hf⟩ := ob_e hf
      refine e_callVv (pc := 102) (st := []) 12 C (ct_X12_entry y37) dX12_value_102 (by decide) (e_mt uh35 t34) g1807 g1809 g82 g157 g1810 hd_X12_entry rfl ⟨Nat.le_of_ble_eq_true rfl, Nat.le_of_ble_eq_true rfl⟩ ⟨Nat.le_of_ble_eq_true rfl, Nat.le_of_ble_eq_true rfl⟩ rfl (Nat.le_of_ble_eq_true rfl) ?_
      obtain rfl := so_e hf
      exact e_vret (pc := 105) C hr dX12_value_105 (Nat.le_of_ble_eq_true rfl) (Nat.le_of_ble_eq_true rfl)
  · refine e_if_eq (pc := 13) (tgt := 36) C dX12_value_13 (by decide) (fun q => absurd q c9) (fun _ => ?_)
    refine e_aload_n (pc := 16) C dX12_value_16 1 rfl rfl ?_
    refine e_ldcw (pc := 17) C dX12_value_17 g1726 ?_
    obtain ⟨t38, hf⟩ := ck_e hf
    obtain ⟨r41, h39, y40, hf⟩ := cb_e hf
    refine e_callVi (pc := 20) (st := []) 12 C (ct_X12_digits y40) dX12_value_20 (by decide) t38 g1727 g1729 g66 g157 g1730 hd_X12_digits rfl ⟨Nat.le_of_ble_eq_true rfl, Nat.le_of_ble_eq_true rfl⟩ ⟨Nat.le_of_ble_eq_true rfl, Nat.le_of_ble_eq_true rfl⟩ rfl (Nat.le_of_ble_eq_true rfl) ?_
    refine e_istore_n (pc := 23) (lv2 := [(2, .int r41), (1, .int x5), (0, .ref v0)]) C hm dX12_value_23 rfl (by decide) rfl ?_
    refine e_aload_n (pc := 24) C dX12_value_24 2 rfl rfl ?_
    refine e_iload_n (pc := 25) C dX12_value_25 1 rfl rfl ?_
    obtain ⟨t42, hf⟩ := ck_e hf
    obtain ⟨h43, y44, hf⟩ := ob_e hf
    refine e_callVv (pc := 26) (st := []) 12 C (ct_X12_isCounted y44) dX12_value_26 (by decide) t42 g1803 g1805 g81 g157 g1806 hd_X12_isCounted rfl ⟨Nat.le_of_ble_eq_true rfl, Nat.le_of_ble_eq_true rfl⟩ ⟨Nat.le_of_ble_eq_true rfl, Nat.le_of_ble_eq_true rfl⟩ rfl (Nat.le_of_ble_eq_true rfl) ?_
    refine e_aload_n (pc := 29) C dX12_value_29 2 rfl rfl ?_
    refine e_iconst (v := (0 : Int32)) (pc := 30) C dX12_value_30 (by decide) ?_
    refine e_iload_n (pc := 31) C dX12_value_31 0 rfl rfl ?_
    obtain ⟨t45, hf⟩ := ck_e hf
    obtain ⟨h46, y47, hf⟩ := ob_e hf
    refine e_callVv (pc := 32) (st := []) 12 C (ct_X12_entry y47) dX12_value_32 (by decide) t45 g1807 g1809 g82 g157 g1810 hd_X12_entry rfl ⟨Nat.le_of_ble_eq_true rfl, Nat.le_of_ble_eq_true rfl⟩ ⟨Nat.le_of_ble_eq_true rfl, Nat.le_of_ble_eq_true rfl⟩ rfl (Nat.le_of_ble_eq_true rfl) ?_
    obtain rfl := so_e hf
    exact e_vret (pc := 35) C hr dX12_value_35 (Nat.le_of_ble_eq_true rfl) (Nat.le_of_ble_eq_true rfl)
theorem dX12_term_0 : decode cX12_term 0 = .ok (.aload_n 0, 1) := by decide +kernel
theorem dX12_term_1 : decode cX12_term 1 = .ok (.invokevirtual 305, 3) := by decide +kernel
theorem dX12_term_4 : decode cX12_term 4 = .ok (.aload_n 0, 1) := by decide +kernel
theorem dX12_term_5 : decode cX12_term 5 = .ok (.invokevirtual 266, 3) := by decide +kernel
theorem dX12_term_8 : decode cX12_term 8 = .ok (.aload_n 0, 1) := by decide +kernel
theorem dX12_term_9 : decode cX12_term 9 = .ok (.getfield 243, 3) := by decide +kernel
theorem dX12_term_12 : decode cX12_term 12 = .ok (.ifCond .ne 88, 3) := by decide +kernel
theorem dX12_term_15 : decode cX12_term 15 = .ok (.aload_n 0, 1) := by decide +kernel
theorem dX12_term_16 : decode cX12_term 16 = .ok (.invokevirtual 249, 3) := by decide +kernel
theorem dX12_term_19 : decode cX12_term 19 = .ok (.bipush 42, 2) := by decide +kernel
theorem dX12_term_21 : decode cX12_term 21 = .ok (.if_icmp .eq 21, 3) := by decide +kernel
theorem dX12_term_24 : decode cX12_term 24 = .ok (.aload_n 0, 1) := by decide +kernel
theorem dX12_term_25 : decode cX12_term 25 = .ok (.invokevirtual 249, 3) := by decide +kernel
theorem dX12_term_28 : decode cX12_term 28 = .ok (.bipush 47, 2) := by decide +kernel
theorem dX12_term_30 : decode cX12_term 30 = .ok (.if_icmp .eq 12, 3) := by decide +kernel
theorem dX12_term_33 : decode cX12_term 33 = .ok (.aload_n 0, 1) := by decide +kernel
theorem dX12_term_34 : decode cX12_term 34 = .ok (.invokevirtual 249, 3) := by decide +kernel
theorem dX12_term_37 : decode cX12_term 37 = .ok (.bipush 37, 2) := by decide +kernel
theorem dX12_term_39 : decode cX12_term 39 = .ok (.if_icmp .ne 61, 3) := by decide +kernel
theorem dX12_term_42 : decode cX12_term 42 = .ok (.aload_n 0, 1) := by decide +kernel
theorem dX12_term_43 : decode cX12_term 43 = .ok (.invokevirtual 249, 3) := by decide +kernel
theorem dX12_term_46 : decode cX12_term 46 = .ok (.bipush 42, 2) := by decide +kernel
theorem dX12_term_48 : decode cX12_term 48 = .ok (.if_icmp .ne 8, 3) := by decide +kernel
theorem dX12_term_51 : decode cX12_term 51 = .ok (.bipush 13, 2) := by decide +kernel
theorem dX12_term_53 : decode cX12_term 53 = .ok (.goto 19, 3) := by decide +kernel
theorem dX12_term_56 : decode cX12_term 56 = .ok (.aload_n 0, 1) := by decide +kernel
theorem dX12_term_57 : decode cX12_term 57 = .ok (.invokevirtual 249, 3) := by decide +kernel
theorem dX12_term_60 : decode cX12_term 60 = .ok (.bipush 47, 2) := by decide +kernel
theorem dX12_term_62 : decode cX12_term 62 = .ok (.if_icmp .ne 8, 3) := by decide +kernel
theorem dX12_term_65 : decode cX12_term 65 = .ok (.bipush 14, 2) := by decide +kernel
theorem dX12_term_67 : decode cX12_term 67 = .ok (.goto 5, 3) := by decide +kernel
theorem dX12_term_70 : decode cX12_term 70 = .ok (.bipush 15, 2) := by decide +kernel
theorem dX12_term_72 : decode cX12_term 72 = .ok (.istore_n 1, 1) := by decide +kernel
theorem dX12_term_73 : decode cX12_term 73 = .ok (.aload_n 0, 1) := by decide +kernel
theorem dX12_term_74 : decode cX12_term 74 = .ok (.dup, 1) := by decide +kernel
theorem dX12_term_75 : decode cX12_term 75 = .ok (.getfield 246, 3) := by decide +kernel
theorem dX12_term_78 : decode cX12_term 78 = .ok (.iconst 1, 1) := by decide +kernel
theorem dX12_term_79 : decode cX12_term 79 = .ok (.iadd, 1) := by decide +kernel
theorem dX12_term_80 : decode cX12_term 80 = .ok (.putfield 246, 3) := by decide +kernel
theorem dX12_term_83 : decode cX12_term 83 = .ok (.aload_n 0, 1) := by decide +kernel
theorem dX12_term_84 : decode cX12_term 84 = .ok (.invokevirtual 305, 3) := by decide +kernel
theorem dX12_term_87 : decode cX12_term 87 = .ok (.aload_n 0, 1) := by decide +kernel
theorem dX12_term_88 : decode cX12_term 88 = .ok (.iload_n 1, 1) := by decide +kernel
theorem dX12_term_89 : decode cX12_term 89 = .ok (.iconst 0, 1) := by decide +kernel
theorem dX12_term_90 : decode cX12_term 90 = .ok (.invokevirtual 298, 3) := by decide +kernel
theorem dX12_term_93 : decode cX12_term 93 = .ok (.aload_n 0, 1) := by decide +kernel
theorem dX12_term_94 : decode cX12_term 94 = .ok (.invokevirtual 266, 3) := by decide +kernel
theorem dX12_term_97 : decode cX12_term 97 = .ok (.goto (-89), 3) := by decide +kernel
theorem dX12_term_100 : decode cX12_term 100 = .ok (.return_, 1) := by decide +kernel
def F_X12_term_8 (G : GG) (v0 : Nat) (self_8 : AH → Option (AH)) (h : AH) : Option (AH) :=
ck (m_t h v0 = .inl 12) <|
if (m_i h v0 34) = 0 then (cb (f_X12_sign G v0 h) fun r11 h9 =>
nn (fun (h_42 : AH) => (ck (m_t h_42 v0 = .inl 12) <|
cb (f_X12_sign G v0 h_42) fun r15 h13 =>
nn (fun (s0_72 : Int32) (h_72 : AH) => (ck (m_t h_72 v0 = .inl 12) <|
nn (m_si h_72 v0 33 ((m_i h_72 v0 33) + (1 : Int32))) fun h17 =>
ob (f_X12_value G v0 h17) fun h18 =>
ck (m_t h18 v0 = .inl 12) <|
ob (f_X12_entry G v0 s0_72 (0 : Int32) h18) fun h21 =>
ck (m_t h21 v0 = .inl 12) <|
ob (f_X12_blanks G v0 h21) fun h24 =>
self_8 h24)) fun j_72 =>
if r15 = (42 : Int32) then (j_72 (13 : Int32) h13) else
ck (m_t h13 v0 = .inl 12) <|
cb (f_X12_sign G v0 h13) fun r30 h28 =>
if r30 = (47 : Int32) then (j_72 (14 : Int32) h28) else
j_72 (15 : Int32) h28)) fun j_42 =>
if r11 = (42 : Int32) then (j_42 h9) else
ck (m_t h9 v0 = .inl 12) <|
cb (f_X12_sign G v0 h9) fun r36 h34 =>
if r36 = (47 : Int32) then (j_42 h34) else
ck (m_t h34 v0 = .inl 12) <|
cb (f_X12_sign G v0 h34) fun r41 h39 =>
if r41 = (37 : Int32) then (j_42 h39) else
some h39) else
some h
def f_X12_term (G : GG) (v0 : Nat) (h : AH) : Option (AH) :=
ck (m_t h v0 = .inl 12) <|
ob (f_X12_value G v0 h) fun h2 =>
ck (m_t h2 v0 = .inl 12) <|
ob (f_X12_blanks G v0 h2) fun h5 =>
lq0 (F_X12_term_8 G v0 ) bN h5
set_option maxHeartbeats 4000000 in
set_option maxRecDepth 100000 in
theorem el_X12_term_8 {G : GG} {p : Program} {l : Launch} {e : Env} {s : State} {m : MethodId} {args : Array Value} {below : List Frame} {meth : Method} {c : Code} {y : AH} (C : Cx G cX12_term RX12 p s m args meth c) (hm : c.maxLocals = 2) (hr : meth.sig.returnType = none) (hin : meth.name = yX12_term.name) {v0 : Nat}  :
    ∀ (n : Nat) (h : AH), lq0 (F_X12_term_8 G v0) n h = some y → EE G p l e ({ frames := 6, cells := 0, slots := 0, locals := 131 } : Room) s m args below meth c (none, y) 0 0 8 [(0, .ref v0)] [] h 0 0 := by
  intro n
  induction n with
  | zero => intro h hf; exact (no_e hf).elim
  | succ n ih_8 =>
    intro h hf
    have hf : F_X12_term_8 G v0 (lq0 (F_X12_term_8 G v0) n) h = some y := hf
    generalize lq0 (F_X12_term_8 G v0) n = self_8 at hf ih_8
    unfold F_X12_term_8 at hf
    refine e_aload_n (pc := 8) C dX12_term_8 0 rfl rfl ?_
    obtain ⟨t7, hf⟩ := ck_e hf
    refine e_geti (pc := 9) 12 34 C dX12_term_9 (by decide) (by decide) g1435 rfl t7 ?_
    rcases it_e hf with ⟨c8, hf⟩ | ⟨c8, hf⟩
    · refine e_if_ne (pc := 12) (tgt := 100) C dX12_term_12 (by decide) (fun q => absurd c8 q) (fun _ => ?_)
      refine e_aload_n (pc := 15) C dX12_term_15 0 rfl rfl ?_
      obtain ⟨r11, h9, y10, hf⟩ := cb_e hf
      refine e_callVi (pc := 16) (st := []) 12 C (ct_X12_sign y10) dX12_term_16 (by decide) t7 g1690 g1692 g60 g157 g1693 hd_X12_sign rfl ⟨Nat.le_of_ble_eq_true rfl, Nat.le_of_ble_eq_true rfl⟩ ⟨Nat.le_of_ble_eq_true rfl, Nat.le_of_ble_eq_true rfl⟩ rfl (Nat.le_of_ble_eq_true rfl) ?_
      refine e_bipush (v := (42 : Int32)) (pc := 19) C dX12_term_19 (by decide) ?_
      obtain ⟨j_42, ej_42, hf⟩ := nn_e hf
      have W_42 : ∀ (h_42 : AH), j_42 h_42 = some y → EE G p l e ({ frames := 6, cells := 0, slots := 0, locals := 131 } : Room) s m args below meth c (none, y) 0 0 42 [(0, .ref v0)] [] h_42 0 0 := by
        intro h_42 hf
        rw [ej_42] at hf
        refine e_aload_n (pc := 42) C dX12_term_42 0 rfl rfl ?_
        obtain ⟨t12, hf⟩ := ck_e hf
        obtain ⟨r15, h13, y14, hf⟩ := cb_e hf
        refine e_callVi (pc := 43) (st := []) 12 C (ct_X12_sign y14) dX12_term_43 (by decide) t12 g1690 g1692 g60 g157 g1693 hd_X12_sign rfl ⟨Nat.le_of_ble_eq_true rfl, Nat.le_of_ble_eq_true rfl⟩ ⟨Nat.le_of_ble_eq_true rfl, Nat.le_of_ble_eq_true rfl⟩ rfl (Nat.le_of_ble_eq_true rfl) ?_
        refine e_bipush (v := (42 : Int32)) (pc := 46) C dX12_term_46 (by decide) ?_
        obtain ⟨j_72, ej_72, hf⟩ := nn_e hf
        have W_72 : ∀ (s0_72 : Int32) (h_72 : AH), j_72 s0_72 h_72 = some y → EE G p l e ({ frames := 6, cells := 0, slots := 0, locals := 131 } : Room) s m args below meth c (none, y) 0 0 72 [(0, .ref v0)] [.int s0_72] h_72 0 0 := by
          intro s0_72 h_72 hf
          rw [ej_72] at hf
          refine e_istore_n (pc := 72) (lv2 := [(1, .int s0_72), (0, .ref v0)]) C hm dX12_term_72 rfl (by decide) rfl ?_
          refine e_aload_n (pc := 73) C dX12_term_73 1 rfl rfl ?_
          refine e_dup (pc := 74) C dX12_term_74 rfl ?_
          obtain ⟨t16, hf⟩ := ck_e hf
          refine e_geti (pc := 75) 12 33 C dX12_term_75 (by decide) (by decide) g1434 rfl t16 ?_
          refine e_iconst (v := (1 : Int32)) (pc := 78) C dX12_term_78 (by decide) ?_
          refine e_iadd (pc := 79) C dX12_term_79 ?_
          refine e_puti (pc := 80) 12 33 C dX12_term_80 (by decide) (by decide) g1434 rfl rfl rfl rfl t16 ?_
          obtain ⟨h17, eh17, hf⟩ := nn_e hf
          refine e_hp eh17 ?_
          have uh17 : m_t h17 = m_t h_72 := by rw [eh17]; exact rfl
          refine e_aload_n (pc := 83) C dX12_term_83 1 rfl rfl ?_
          obtain ⟨h18, y19, hf⟩ := ob_e hf
          refine e_callVv (pc := 84) (st := []) 12 C (ct_X12_value y19) dX12_term_84 (by decide) (e_mt uh17 t16) g1799 g1801 g80 g157 g1802 hd_X12_value rfl ⟨Nat.le_of_ble_eq_true rfl, Nat.le_of_ble_eq_true rfl⟩ ⟨Nat.le_of_ble_eq_true rfl, Nat.le_of_ble_eq_true rfl⟩ rfl (Nat.le_of_ble_eq_true rfl) ?_
          refine e_aload_n (pc := 87) C dX12_term_87 1 rfl rfl ?_
          refine e_iload_n (pc := 88) C dX12_term_88 0 rfl rfl ?_
          refine e_iconst (v := (0 : Int32)) (pc := 89) C dX12_term_89 (by decide) ?_
          obtain ⟨t20, hf⟩ := ck_e hf
          obtain ⟨h21, y22, hf⟩ := ob_e hf
          refine e_callVv (pc := 90) (st := []) 12 C (ct_X12_entry y22) dX12_term_90 (by decide) t20 g1807 g1809 g82 g157 g1810 hd_X12_entry rfl ⟨Nat.le_of_ble_eq_true rfl, Nat.le_of_ble_eq_true rfl⟩ ⟨Nat.le_of_ble_eq_true rfl, Nat.le_of_ble_eq_true rfl⟩ rfl (Nat.le_of_ble_eq_true rfl) ?_
          refine e_aload_n (pc := 93) C dX12_term_93 1 rfl rfl ?_
          obtain ⟨t23, hf⟩ := ck_e hf
          obtain ⟨h24, y25, hf⟩ := ob_e hf
          refine e_callVv (pc := 94) (st := []) 12 C (ct_X12_blanks y25) dX12_term_94 (by decide) t23 g1686 g1688 g59 g157 g1689 hd_X12_blanks rfl ⟨Nat.le_of_ble_eq_true rfl, Nat.le_of_ble_eq_true rfl⟩ ⟨Nat.le_of_ble_eq_true rfl, Nat.le_of_ble_eq_true rfl⟩ rfl (Nat.le_of_ble_eq_true rfl) ?_
          refine e_goto (pc := 97) (tgt := 8) C dX12_term_97 (by decide) ?_
          refine e_lv (lv2 := [(0, .ref v0)]) [1] rfl ?_
          exact ih_8 h24 hf
        rcases it_e hf with ⟨c26, hf⟩ | ⟨c26, hf⟩
        · refine e_icmp_ne (pc := 48) (tgt := 56) C dX12_term_48 (by decide) (fun q => absurd c26 q) (fun _ => ?_)
          refine e_bipush (v := (13 : Int32)) (pc := 51) C dX12_term_51 (by decide) ?_
          refine e_goto (pc := 53) (tgt := 72) C dX12_term_53 (by decide) ?_
          exact W_72 (13 : Int32) h13 hf
        · refine e_icmp_ne (pc := 48) (tgt := 56) C dX12_term_48 (by decide) (fun _ => ?_) (fun q => absurd q c26)
          refine e_aload_n (pc := 56) C dX12_term_56 0 rfl rfl ?_
          obtain ⟨t27, hf⟩ := ck_e hf
          obtain ⟨r30, h28, y29, hf⟩ := cb_e hf
          refine e_callVi (pc := 57) (st := []) 12 C (ct_X12_sign y29) dX12_term_57 (by decide) t27 g1690 g1692 g60 g157 g1693 hd_X12_sign rfl ⟨Nat.le_of_ble_eq_true rfl, Nat.le_of_ble_eq_true rfl⟩ ⟨Nat.le_of_ble_eq_true rfl, Nat.le_of_ble_eq_true rfl⟩ rfl (Nat.le_of_ble_eq_true rfl) ?_
          refine e_bipush (v := (47 : Int32)) (pc := 60) C dX12_term_60 (by decide) ?_
          rcases it_e hf with ⟨c31, hf⟩ | ⟨c31, hf⟩
          · refine e_icmp_ne (pc := 62) (tgt := 70) C dX12_term_62 (by decide) (fun q => absurd c31 q) (fun _ => ?_)
            refine e_bipush (v := (14 : Int32)) (pc := 65) C dX12_term_65 (by decide) ?_
            refine e_goto (pc := 67) (tgt := 72) C dX12_term_67 (by decide) ?_
            exact W_72 (14 : Int32) h28 hf
          · refine e_icmp_ne (pc := 62) (tgt := 70) C dX12_term_62 (by decide) (fun _ => ?_) (fun q => absurd q c31)
            refine e_bipush (v := (15 : Int32)) (pc := 70) C dX12_term_70 (by decide) ?_
            exact W_72 (15 : Int32) h28 hf
      rcases it_e hf with ⟨c32, hf⟩ | ⟨c32, hf⟩
      · refine e_icmp_eq (pc := 21) (tgt := 42) C dX12_term_21 (by decide) (fun _ => ?_) (fun q => absurd c32 q)
        exact W_42 h9 hf
      · refine e_icmp_eq (pc := 21) (tgt := 42) C dX12_term_21 (by decide) (fun q => absurd q c32) (fun _ => ?_)
        refine e_aload_n (pc := 24) C dX12_term_24 0 rfl rfl ?_
        obtain ⟨t33, hf⟩ := ck_e hf
        obtain ⟨r36, h34, y35, hf⟩ := cb_e hf
        refine e_callVi (pc := 25) (st := []) 12 C (ct_X12_sign y35) dX12_term_25 (by decide) t33 g1690 g1692 g60 g157 g1693 hd_X12_sign rfl ⟨Nat.le_of_ble_eq_true rfl, Nat.le_of_ble_eq_true rfl⟩ ⟨Nat.le_of_ble_eq_true rfl, Nat.le_of_ble_eq_true rfl⟩ rfl (Nat.le_of_ble_eq_true rfl) ?_
        refine e_bipush (v := (47 : Int32)) (pc := 28) C dX12_term_28 (by decide) ?_
        rcases it_e hf with ⟨c37, hf⟩ | ⟨c37, hf⟩
        · refine e_icmp_eq (pc := 30) (tgt := 42) C dX12_term_30 (by decide) (fun _ => ?_) (fun q => absurd c37 q)
          exact W_42 h34 hf
        · refine e_icmp_eq (pc := 30) (tgt := 42) C dX12_term_30 (by decide) (fun q => absurd q c37) (fun _ => ?_)
          refine e_aload_n (pc := 33) C dX12_term_33 0 rfl rfl ?_
          obtain ⟨t38, hf⟩ := ck_e hf
          obtain ⟨r41, h39, y40, hf⟩ := cb_e hf
          refine e_callVi (pc := 34) (st := []) 12 C (ct_X12_sign y40) dX12_term_34 (by decide) t38 g1690 g1692 g60 g157 g1693 hd_X12_sign rfl ⟨Nat.le_of_ble_eq_true rfl, Nat.le_of_ble_eq_true rfl⟩ ⟨Nat.le_of_ble_eq_true rfl, Nat.le_of_ble_eq_true rfl⟩ rfl (Nat.le_of_ble_eq_true rfl) ?_
          refine e_bipush (v := (37 : Int32)) (pc := 37) C dX12_term_37 (by decide) ?_
          rcases it_e hf with ⟨c42, hf⟩ | ⟨c42, hf⟩
          · refine e_icmp_ne (pc := 39) (tgt := 100) C dX12_term_39 (by decide) (fun q => absurd c42 q) (fun _ => ?_)
            exact W_42 h39 hf
          · refine e_icmp_ne (pc := 39) (tgt := 100) C dX12_term_39 (by decide) (fun _ => ?_) (fun q => absurd q c42)
            obtain rfl := so_e hf
            exact e_vret (pc := 100) C hr dX12_term_100 (Nat.le_of_ble_eq_true rfl) (Nat.le_of_ble_eq_true rfl)
    · refine e_if_ne (pc := 12) (tgt := 100) C dX12_term_12 (by decide) (fun _ => ?_) (fun q => absurd q c8)
      obtain rfl := so_e hf
      exact e_vret (pc := 100) C hr dX12_term_100 (Nat.le_of_ble_eq_true rfl) (Nat.le_of_ble_eq_true rfl)
set_option maxHeartbeats 4000000 in
set_option maxRecDepth 100000 in
theorem ct_X12_term {G : GG} {l : Launch} {v0 : Nat} {h : AH} {y : AH} (hf : f_X12_term G v0 h = some y) : Ct G l yX12_term cX12_term 2 none 6 131 0 0 [.ref v0] h (none, y) := by
  refine ct_of (by decide) (Nat.le_of_ble_eq_true rfl) ?_
  intro p e s m args below meth c C hm hr hin
  have C : Cx G cX12_term RX12 p s m args meth c := C
  refine e_lv (lv2 := [(0, .ref v0)]) [0] rfl ?_
  unfold f_X12_term at hf
  refine e_aload_n (pc := 0) C dX12_term_0 0 rfl rfl ?_
  obtain ⟨t1, hf⟩ := ck_e hf
  obtain ⟨h2, y3, hf⟩ := ob_e hf
  refine e_callVv (pc := 1) (st := []) 12 C (ct_X12_value y3) dX12_term_1 (by decide) t1 g1799 g1801 g80 g157 g1802 hd_X12_value rfl ⟨Nat.le_of_ble_eq_true rfl, Nat.le_of_ble_eq_true rfl⟩ ⟨Nat.le_of_ble_eq_true rfl, Nat.le_of_ble_eq_true rfl⟩ rfl (Nat.le_of_ble_eq_true rfl) ?_
  refine e_aload_n (pc := 4) C dX12_term_4 0 rfl rfl ?_
  obtain ⟨t4, hf⟩ := ck_e hf
  obtain ⟨h5, y6, hf⟩ := ob_e hf
  refine e_callVv (pc := 5) (st := []) 12 C (ct_X12_blanks y6) dX12_term_5 (by decide) t4 g1686 g1688 g59 g157 g1689 hd_X12_blanks rfl ⟨Nat.le_of_ble_eq_true rfl, Nat.le_of_ble_eq_true rfl⟩ ⟨Nat.le_of_ble_eq_true rfl, Nat.le_of_ble_eq_true rfl⟩ rfl (Nat.le_of_ble_eq_true rfl) ?_
  exact el_X12_term_8 C hm hr hin bN h5 hf
