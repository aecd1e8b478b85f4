/-! Functions and walks, by a program of ours: X12_stretch X12_getOut X12_ridersMany X12_nextTunnel X12_middleOf X12_mostWanted X12_asks X12_warmer X12_knobMoves X12_rolls X12_mileGoes X12_moves X12_movesRow X12_movesAll X12_keepsAct X12_undo X12_mile X12_pull X12_turn X12_seats X12_say -/
theorem dX12_stretch_0 : decode cX12_stretch 0 = .ok (.aload_n 0, 1) := by decide +kernel
theorem dX12_stretch_1 : decode cX12_stretch 1 = .ok (.invokevirtual 468, 3) := by decide +kernel
theorem dX12_stretch_4 : decode cX12_stretch 4 = .ok (.ifCond .eq 25, 3) := by decide +kernel
theorem dX12_stretch_7 : decode cX12_stretch 7 = .ok (.iload_n 1, 1) := by decide +kernel
theorem dX12_stretch_8 : decode cX12_stretch 8 = .ok (.i2l, 1) := by decide +kernel
theorem dX12_stretch_9 : decode cX12_stretch 9 = .ok (.lconst 0, 1) := by decide +kernel
theorem dX12_stretch_10 : decode cX12_stretch 10 = .ok (.ldc2_w 474, 3) := by decide +kernel
theorem dX12_stretch_13 : decode cX12_stretch 13 = .ok (.invokestatic 206, 3) := by decide +kernel
theorem dX12_stretch_16 : decode cX12_stretch 16 = .ok (.ifCond .eq 13, 3) := by decide +kernel
theorem dX12_stretch_19 : decode cX12_stretch 19 = .ok (.iload_n 2, 1) := by decide +kernel
theorem dX12_stretch_20 : decode cX12_stretch 20 = .ok (.i2l, 1) := by decide +kernel
theorem dX12_stretch_21 : decode cX12_stretch 21 = .ok (.lconst 0, 1) := by decide +kernel
theorem dX12_stretch_22 : decode cX12_stretch 22 = .ok (.lconst 1, 1) := by decide +kernel
theorem dX12_stretch_23 : decode cX12_stretch 23 = .ok (.invokestatic 206, 3) := by decide +kernel
theorem dX12_stretch_26 : decode cX12_stretch 26 = .ok (.ifCond .ne 5, 3) := by decide +kernel
theorem dX12_stretch_29 : decode cX12_stretch 29 = .ok (.iconst (-1), 1) := by decide +kernel
theorem dX12_stretch_30 : decode cX12_stretch 30 = .ok (.ireturn, 1) := by decide +kernel
theorem dX12_stretch_31 : decode cX12_stretch 31 = .ok (.iload_n 2, 1) := by decide +kernel
theorem dX12_stretch_32 : decode cX12_stretch 32 = .ok (.iconst 1, 1) := by decide +kernel
theorem dX12_stretch_33 : decode cX12_stretch 33 = .ok (.if_icmp .ne 11, 3) := by decide +kernel
theorem dX12_stretch_36 : decode cX12_stretch 36 = .ok (.aload_n 0, 1) := by decide +kernel
theorem dX12_stretch_37 : decode cX12_stretch 37 = .ok (.iload_n 1, 1) := by decide +kernel
theorem dX12_stretch_38 : decode cX12_stretch 38 = .ok (.invokevirtual 476, 3) := by decide +kernel
theorem dX12_stretch_41 : decode cX12_stretch 41 = .ok (.goto 16, 3) := by decide +kernel
theorem dX12_stretch_44 : decode cX12_stretch 44 = .ok (.aload_n 0, 1) := by decide +kernel
theorem dX12_stretch_45 : decode cX12_stretch 45 = .ok (.iload_n 1, 1) := by decide +kernel
theorem dX12_stretch_46 : decode cX12_stretch 46 = .ok (.invokevirtual 441, 3) := by decide +kernel
theorem dX12_stretch_49 : decode cX12_stretch 49 = .ok (.ifCond .eq 7, 3) := by decide +kernel
theorem dX12_stretch_52 : decode cX12_stretch 52 = .ok (.iconst 1, 1) := by decide +kernel
theorem dX12_stretch_53 : decode cX12_stretch 53 = .ok (.goto 4, 3) := by decide +kernel
theorem dX12_stretch_56 : decode cX12_stretch 56 = .ok (.iconst 0, 1) := by decide +kernel
theorem dX12_stretch_57 : decode cX12_stretch 57 = .ok (.ireturn, 1) := by decide +kernel
def f_X12_stretch (G : GG) (v0 : Nat) (v1 : Int32) (v2 : Int32) (h : AH) : Option (Int32 × AH) :=
ck (m_t h v0 = .inl 12) <|
cb (f_X12_isTrain G v0 h) fun r4 h2 =>
if r4 = 0 then (some ((-1 : Int32), h2)) else
cb (f_X12_in G v1.toInt64 (0 : Int64) (239 : Int64) h2) fun r8 h6 =>
if r8 = 0 then (some ((-1 : Int32), h6)) else
cb (f_X12_in G v2.toInt64 (0 : Int64) (1 : Int64) h6) fun r12 h10 =>
if r12 = 0 then (some ((-1 : Int32), h10)) else
if v2 = (1 : Int32) then (ck (m_t h10 v0 = .inl 12) <|
cb (f_X12_coldOf G v0 v1 h10) fun r18 h16 =>
some (r18, h16)) else
ck (m_t h10 v0 = .inl 12) <|
cb (f_X12_isTunnel G v0 v1 h10) fun r22 h20 =>
if r22 = 0 then (some ((0 : Int32), h20)) else
some ((1 : Int32), h20)
set_option maxHeartbeats 4000000 in
set_option maxRecDepth 100000 in
theorem ct_X12_stretch {G : GG} {l : Launch} {v0 : Nat} {v1 : Int32} {v2 : Int32} {h : AH} {y : Int32 × AH} (hf : f_X12_stretch G v0 v1 v2 h = some y) : Ct G l yX12_stretch cX12_stretch 3 (some .int) 2 47 0 0 [.ref v0, .int v1, .int v2] h (some (.int y.1), y.2) := by
  refine ct_of (by decide) (Nat.le_of_ble_eq_true rfl) ?_
  intro p e s m args below meth c C hm hr hin
  have C : Cx G cX12_stretch RX12 p s m args meth c := C
  refine e_lv (lv2 := [(0, .ref v0), (1, .int v1), (2, .int v2)]) [0, 1, 2] rfl ?_
  unfold f_X12_stretch at hf
  refine e_aload_n (pc := 0) C dX12_stretch_0 0 rfl rfl ?_
  obtain ⟨t1, hf⟩ := ck_e hf
  obtain ⟨r4, h2, y3, hf⟩ := cb_e hf
  refine e_callVi (pc := 1) (st := []) 12 C (ct_X12_isTrain y3) dX12_stretch_1 (by decide) t1 g1907 g1909 g96 g157 g1910 hd_X12_isTrain rfl ⟨Nat.le_of_ble_eq_true rfl, Nat.le_of_ble_eq_true rfl⟩ ⟨Nat.le_of_ble_eq_true rfl, Nat.le_of_ble_eq_true rfl⟩ rfl (Nat.le_of_ble_eq_true rfl) ?_
  rcases it_e hf with ⟨c5, hf⟩ | ⟨c5, hf⟩
  · refine e_if_eq (pc := 4) (tgt := 29) C dX12_stretch_4 (by decide) (fun _ => ?_) (fun q => absurd c5 q)
    refine e_iconst (v := (-1 : Int32)) (pc := 29) C dX12_stretch_29 (by decide) ?_
    obtain rfl := so_e hf
    exact e_iret (pc := 30) C hr dX12_stretch_30 (Nat.le_of_ble_eq_true rfl) (Nat.le_of_ble_eq_true rfl)
  · refine e_if_eq (pc := 4) (tgt := 29) C dX12_stretch_4 (by decide) (fun q => absurd q c5) (fun _ => ?_)
    refine e_iload_n (pc := 7) C dX12_stretch_7 1 rfl rfl ?_
    refine e_i2l (pc := 8) C dX12_stretch_8 ?_
    refine e_lconst (v := (0 : Int64)) (pc := 9) C dX12_stretch_9 (by decide) ?_
    refine e_ldc2 (pc := 10) C dX12_stretch_10 g1915 ?_
    obtain ⟨r8, h6, y7, hf⟩ := cb_e hf
    refine e_callSi (pc := 13) (st := []) C (ct_X12_in y7) dX12_stretch_13 g1737 g1738 g157 g1739 hd_X12_in rfl ⟨Nat.le_of_ble_eq_true rfl, Nat.le_of_ble_eq_true rfl⟩ ⟨Nat.le_of_ble_eq_true rfl, Nat.le_of_ble_eq_true rfl⟩ rfl (Nat.le_of_ble_eq_true rfl) ?_
    rcases it_e hf with ⟨c9, hf⟩ | ⟨c9, hf⟩
    · refine e_if_eq (pc := 16) (tgt := 29) C dX12_stretch_16 (by decide) (fun _ => ?_) (fun q => absurd c9 q)
      refine e_iconst (v := (-1 : Int32)) (pc := 29) C dX12_stretch_29 (by decide) ?_
      obtain rfl := so_e hf
      exact e_iret (pc := 30) C hr dX12_stretch_30 (Nat.le_of_ble_eq_true rfl) (Nat.le_of_ble_eq_true rfl)
    · refine e_if_eq (pc := 16) (tgt := 29) C dX12_stretch_16 (by decide) (fun q => absurd q c9) (fun _ => ?_)
      refine e_iload_n (pc := 19) C dX12_stretch_19 2 rfl rfl ?_
      refine e_i2l (pc := 20) C dX12_stretch_20 ?_
      refine e_lconst (v := (0 : Int64)) (pc := 21) C dX12_stretch_21 (by decide) ?_
      refine e_lconst (v := (1 : Int64)) (pc := 22) C dX12_stretch_22 (by decide) ?_
      obtain ⟨r12, h10, y11, hf⟩ := cb_e hf
      refine e_callSi (pc := 23) (st := []) C (ct_X12_in y11) dX12_stretch_23 g1737 g1738 g157 g1739 hd_X12_in rfl ⟨Nat.le_of_ble_eq_true rfl, Nat.le_of_ble_eq_true rfl⟩ ⟨Nat.le_of_ble_eq_true rfl, Nat.le_of_ble_eq_true rfl⟩ rfl (Nat.le_of_ble_eq_true rfl) ?_
      rcases it_e hf with ⟨c13, hf⟩ | ⟨c13, hf⟩
      · refine e_if_ne (pc := 26) (tgt := 31) C dX12_stretch_26 (by decide) (fun q => absurd c13 q) (fun _ => ?_)
        refine e_iconst (v := (-1 : Int32)) (pc := 29) C dX12_stretch_29 (by decide) ?_
        obtain rfl := so_e hf
        exact e_iret (pc := 30) C hr dX12_stretch_30 (Nat.le_of_ble_eq_true rfl) (Nat.le_of_ble_eq_true rfl)
      · refine e_if_ne (pc := 26) (tgt := 31) C dX12_stretch_26 (by decide) (fun _ => ?_) (fun q => absurd q c13)
        refine e_iload_n (pc := 31) C dX12_stretch_31 2 rfl rfl ?_
        refine e_iconst (v := (1 : Int32)) (pc := 32) C dX12_stretch_32 (by decide) ?_
        rcases it_e hf with ⟨c14, hf⟩ | ⟨c14, hf⟩
        · refine e_icmp_ne (pc := 33) (tgt := 44) C dX12_stretch_33 (by decide) (fun q => absurd c14 q) (fun _ => ?_)
          refine e_aload_n (pc := 36) C dX12_stretch_36 0 rfl rfl ?_
          refine e_iload_n (pc := 37) C dX12_stretch_37 1 rfl rfl ?_
          obtain ⟨t15, hf⟩ := ck_e hf
          obtain ⟨r18, h16, y17, hf⟩ := cb_e hf
          refine e_callVi (pc := 38) (st := []) 12 C (ct_X12_coldOf y17) dX12_stretch_38 (by decide) t15 g1916 g1918 g97 g157 g1919 hd_X12_coldOf rfl ⟨Nat.le_of_ble_eq_true rfl, Nat.le_of_ble_eq_true rfl⟩ ⟨Nat.le_of_ble_eq_true rfl, Nat.le_of_ble_eq_true rfl⟩ rfl (Nat.le_of_ble_eq_true rfl) ?_
          refine e_goto (pc := 41) (tgt := 57) C dX12_stretch_41 (by decide) ?_
          obtain rfl := so_e hf
          exact e_iret (pc := 57) C hr dX12_stretch_57 (Nat.le_of_ble_eq_true rfl) (Nat.le_of_ble_eq_true rfl)
        · refine e_icmp_ne (pc := 33) (tgt := 44) C dX12_stretch_33 (by decide) (fun _ => ?_) (fun q => absurd q c14)
          refine e_aload_n (pc := 44) C dX12_stretch_44 0 rfl rfl ?_
          refine e_iload_n (pc := 45) C dX12_stretch_45 1 rfl rfl ?_
          obtain ⟨t19, hf⟩ := ck_e hf
          obtain ⟨r22, h20, y21, hf⟩ := cb_e hf
          refine e_callVi (pc := 46) (st := []) 12 C (ct_X12_isTunnel y21) dX12_stretch_46 (by decide) t19 g1889 g1891 g94 g157 g1892 hd_X12_isTunnel rfl ⟨Nat.le_of_ble_eq_true rfl, Nat.le_of_ble_eq_true rfl⟩ ⟨Nat.le_of_ble_eq_true rfl, Nat.le_of_ble_eq_true rfl⟩ rfl (Nat.le_of_ble_eq_true rfl) ?_
          rcases it_e hf with ⟨c23, hf⟩ | ⟨c23, hf⟩
          · refine e_if_eq (pc := 49) (tgt := 56) C dX12_stretch_49 (by decide) (fun _ => ?_) (fun q => absurd c23 q)
            refine e_iconst (v := (0 : Int32)) (pc := 56) C dX12_stretch_56 (by decide) ?_
            obtain rfl := so_e hf
            exact e_iret (pc := 57) C hr dX12_stretch_57 (Nat.le_of_ble_eq_true rfl) (Nat.le_of_ble_eq_true rfl)
          · refine e_if_eq (pc := 49) (tgt := 56) C dX12_stretch_49 (by decide) (fun q => absurd q c23) (fun _ => ?_)
            refine e_iconst (v := (1 : Int32)) (pc := 52) C dX12_stretch_52 (by decide) ?_
            refine e_goto (pc := 53) (tgt := 57) C dX12_stretch_53 (by decide) ?_
            obtain rfl := so_e hf
            exact e_iret (pc := 57) C hr dX12_stretch_57 (Nat.le_of_ble_eq_true rfl) (Nat.le_of_ble_eq_true rfl)
theorem dX12_getOut_0 : decode cX12_getOut 0 = .ok (.iconst 0, 1) := by decide +kernel
theorem dX12_getOut_1 : decode cX12_getOut 1 = .ok (.istore_n 1, 1) := by decide +kernel
theorem dX12_getOut_2 : decode cX12_getOut 2 = .ok (.iload_n 1, 1) := by decide +kernel
theorem dX12_getOut_3 : decode cX12_getOut 3 = .ok (.aload_n 0, 1) := by decide +kernel
theorem dX12_getOut_4 : decode cX12_getOut 4 = .ok (.getfield 9, 3) := by decide +kernel
theorem dX12_getOut_7 : decode cX12_getOut 7 = .ok (.bipush 6, 2) := by decide +kernel
theorem dX12_getOut_9 : decode cX12_getOut 9 = .ok (.iaload, 1) := by decide +kernel
theorem dX12_getOut_10 : decode cX12_getOut 10 = .ok (.if_icmp .ge 47, 3) := by decide +kernel
theorem dX12_getOut_13 : decode cX12_getOut 13 = .ok (.aload_n 0, 1) := by decide +kernel
theorem dX12_getOut_14 : decode cX12_getOut 14 = .ok (.iload_n 1, 1) := by decide +kernel
theorem dX12_getOut_15 : decode cX12_getOut 15 = .ok (.invokevirtual 449, 3) := by decide +kernel
theorem dX12_getOut_18 : decode cX12_getOut 18 = .ok (.ifCond .eq 33, 3) := by decide +kernel
theorem dX12_getOut_21 : decode cX12_getOut 21 = .ok (.aload_n 0, 1) := by decide +kernel
theorem dX12_getOut_22 : decode cX12_getOut 22 = .ok (.getfield 22, 3) := by decide +kernel
theorem dX12_getOut_25 : decode cX12_getOut 25 = .ok (.iload_n 1, 1) := by decide +kernel
theorem dX12_getOut_26 : decode cX12_getOut 26 = .ok (.iaload, 1) := by decide +kernel
theorem dX12_getOut_27 : decode cX12_getOut 27 = .ok (.aload_n 0, 1) := by decide +kernel
theorem dX12_getOut_28 : decode cX12_getOut 28 = .ok (.getfield 9, 3) := by decide +kernel
theorem dX12_getOut_31 : decode cX12_getOut 31 = .ok (.bipush 10, 2) := by decide +kernel
theorem dX12_getOut_33 : decode cX12_getOut 33 = .ok (.iaload, 1) := by decide +kernel
theorem dX12_getOut_34 : decode cX12_getOut 34 = .ok (.if_icmp .ne 17, 3) := by decide +kernel
theorem dX12_getOut_37 : decode cX12_getOut 37 = .ok (.aload_n 0, 1) := by decide +kernel
theorem dX12_getOut_38 : decode cX12_getOut 38 = .ok (.getfield 37, 3) := by decide +kernel
theorem dX12_getOut_41 : decode cX12_getOut 41 = .ok (.iload_n 1, 1) := by decide +kernel
theorem dX12_getOut_42 : decode cX12_getOut 42 = .ok (.iconst 0, 1) := by decide +kernel
theorem dX12_getOut_43 : decode cX12_getOut 43 = .ok (.iastore, 1) := by decide +kernel
theorem dX12_getOut_44 : decode cX12_getOut 44 = .ok (.aload_n 0, 1) := by decide +kernel
theorem dX12_getOut_45 : decode cX12_getOut 45 = .ok (.getfield 34, 3) := by decide +kernel
theorem dX12_getOut_48 : decode cX12_getOut 48 = .ok (.iload_n 1, 1) := by decide +kernel
theorem dX12_getOut_49 : decode cX12_getOut 49 = .ok (.iconst (-1), 1) := by decide +kernel
theorem dX12_getOut_50 : decode cX12_getOut 50 = .ok (.iastore, 1) := by decide +kernel
theorem dX12_getOut_51 : decode cX12_getOut 51 = .ok (.iinc 1 1, 3) := by decide +kernel
theorem dX12_getOut_54 : decode cX12_getOut 54 = .ok (.goto (-52), 3) := by decide +kernel
theorem dX12_getOut_57 : decode cX12_getOut 57 = .ok (.return_, 1) := by decide +kernel
def F_X12_getOut_2 (G : GG) (v0 : Nat) (self_2 : Int32 → AH → Option (AH)) (v1 : Int32) (h : AH) : Option (AH) :=
ck (m_t h v0 = .inl 12) <|
ob (m_r h v0 1) fun b2 =>
ck (ixb h b2 .int (6 : Int32) = true) <|
if (m_i h b2 (6 : Int32).toNatClampNeg) ≤ v1 then (some h) else
cb (f_X12_rides G v0 v1 h) fun r8 h6 =>
nn (fun (h_51 : AH) => (nn (v1 + (1 : Int32)) fun x9 =>
self_2 x9 h_51)) fun j_51 =>
if r8 = 0 then (j_51 h6) else
ck (m_t h6 v0 = .inl 12) <|
ob (m_r h6 v0 5) fun b12 =>
ck (ixb h6 b12 .int v1 = true) <|
ob (m_r h6 v0 1) fun b15 =>
ck (ixb h6 b15 .int (10 : Int32) = true) <|
if (m_i h6 b12 v1.toNatClampNeg) = (m_i h6 b15 (10 : Int32).toNatClampNeg) then (ob (m_r h6 v0 10) fun b19 =>
ck (ixb h6 b19 .int v1 = true) <|
nn (m_si h6 b19 v1.toNatClampNeg (0 : Int32)) fun h22 =>
ob (m_r h22 v0 9) fun b23 =>
ck (ixb h22 b23 .int v1 = true) <|
nn (m_si h22 b23 v1.toNatClampNeg (-1 : Int32)) fun h26 =>
j_51 h26) else
j_51 h6
def f_X12_getOut (G : GG) (v0 : Nat) (h : AH) : Option (AH) :=
lq1 (F_X12_getOut_2 G v0 ) bN (0 : Int32) h
set_option maxHeartbeats 4000000 in
set_option maxRecDepth 100000 in
theorem el_X12_getOut_2 {G : GG} {p : Program} {l : Launch} {e : Env} {s : State} {m : MethodId} {args : Array Value} {below : List Frame} {meth : Method} {c : Code} {y : AH} (C : Cx G cX12_getOut RX12 p s m args meth c) (hm : c.maxLocals = 2) (hr : meth.sig.returnType = none) (hin : meth.name = yX12_getOut.name) {v0 : Nat}  :
    ∀ (n : Nat) (v1 : Int32) (h : AH), lq1 (F_X12_getOut_2 G v0) n v1 h = some y → EE G p l e ({ frames := 1, cells := 0, slots := 0, locals := 21 } : Room) s m args below meth c (none, y) 0 0 2 [(0, .ref v0), (1, .int v1)] [] h 0 0 := by
  intro n
  induction n with
  | zero => intro v1 h hf; exact (no_e hf).elim
  | succ n ih_2 =>
    intro v1 h hf
    have hf : F_X12_getOut_2 G v0 (lq1 (F_X12_getOut_2 G v0) n) v1 h = some y := hf
    generalize lq1 (F_X12_getOut_2 G v0) n = self_2 at hf ih_2
    unfold F_X12_getOut_2 at hf
    refine e_iload_n (pc := 2) C dX12_getOut_2 1 rfl rfl ?_
    refine e_aload_n (pc := 3) C dX12_getOut_3 0 rfl rfl ?_
    obtain ⟨t1, hf⟩ := ck_e hf
    refine e_getr (pc := 4) 12 1 C dX12_getOut_4 (by decide) (by decide) g1402 rfl t1 ?_
    obtain ⟨b2, eb2, hf⟩ := ob_e hf
    refine e_rf eb2 ?_
    refine e_bipush (v := (6 : Int32)) (pc := 7) C dX12_getOut_7 (by decide) ?_
    obtain ⟨q3, hf⟩ := ck_e hf
    obtain ⟨n4, tn4, in4⟩ := ix_e q3
    refine e_iald (pc := 9) C dX12_getOut_9 tn4 in4 ?_
    rcases it_e hf with ⟨c5, hf⟩ | ⟨c5, hf⟩
    · refine e_icmp_ge (pc := 10) (tgt := 57) C dX12_getOut_10 (by decide) (fun _ => ?_) (fun q => absurd c5 q)
      obtain rfl := so_e hf
      exact e_vret (pc := 57) C hr dX12_getOut_57 (Nat.le_of_ble_eq_true rfl) (Nat.le_of_ble_eq_true rfl)
    · refine e_icmp_ge (pc := 10) (tgt := 57) C dX12_getOut_10 (by decide) (fun q => absurd q c5) (fun _ => ?_)
      refine e_aload_n (pc := 13) C dX12_getOut_13 0 rfl rfl ?_
      refine e_iload_n (pc := 14) C dX12_getOut_14 1 rfl rfl ?_
      obtain ⟨r8, h6, y7, hf⟩ := cb_e hf
      refine e_callVi (pc := 15) (st := []) 12 C (ct_X12_rides y7) dX12_getOut_15 (by decide) t1 g1778 g1780 g76 g157 g1781 hd_X12_rides rfl ⟨Nat.le_of_ble_eq_true rfl, Nat.le_of_ble_eq_true rfl⟩ ⟨Nat.le_of_ble_eq_true rfl, Nat.le_of_ble_eq_true rfl⟩ rfl (Nat.le_of_ble_eq_true rfl) ?_
      obtain ⟨j_51, ej_51, hf⟩ := nn_e hf
      have W_51 : ∀ (h_51 : AH), j_51 h_51 = some y → EE G p l e ({ frames := 1, cells := 0, slots := 0, locals := 21 } : Room) s m args below meth c (none, y) 0 0 51 [(0, .ref v0), (1, .int v1)] [] h_51 0 0 := by
        intro h_51 hf
        rw [ej_51] at hf
        obtain ⟨x9, ex9, hf⟩ := nn_e hf
        refine e_iinc (pc := 51) (v := x9) (lv2 := [(1, .int x9), (0, .ref v0)]) C hm dX12_getOut_51 1 rfl (by rw [ex9]; rfl) (by decide) rfl ?_
        refine e_goto (pc := 54) (tgt := 2) C dX12_getOut_54 (by decide) ?_
        refine e_lv (lv2 := [(0, .ref v0), (1, .int x9)]) [1, 0] rfl ?_
        exact ih_2 x9 h_51 hf
      rcases it_e hf with ⟨c10, hf⟩ | ⟨c10, hf⟩
      · refine e_if_eq (pc := 18) (tgt := 51) C dX12_getOut_18 (by decide) (fun _ => ?_) (fun q => absurd c10 q)
        exact W_51 h6 hf
      · refine e_if_eq (pc := 18) (tgt := 51) C dX12_getOut_18 (by decide) (fun q => absurd q c10) (fun _ => ?_)
        refine e_aload_n (pc := 21) C dX12_getOut_21 0 rfl rfl ?_
        obtain ⟨t11, hf⟩ := ck_e hf
        refine e_getr (pc := 22) 12 5 C dX12_getOut_22 (by decide) (by decide) g1406 rfl t11 ?_
        obtain ⟨b12, eb12, hf⟩ := ob_e hf
        refine e_rf eb12 ?_
        refine e_iload_n (pc := 25) C dX12_getOut_25 1 rfl rfl ?_
        obtain ⟨q13, hf⟩ := ck_e hf
        obtain ⟨n14, tn14, in14⟩ := ix_e q13
        refine e_iald (pc := 26) C dX12_getOut_26 tn14 in14 ?_
        refine e_aload_n (pc := 27) C dX12_getOut_27 0 rfl rfl ?_
        refine e_getr (pc := 28) 12 1 C dX12_getOut_28 (by decide) (by decide) g1402 rfl t11 ?_
        obtain ⟨b15, eb15, hf⟩ := ob_e hf
        refine e_rf eb15 ?_
        refine e_bipush (v := (10 : Int32)) (pc := 31) C dX12_getOut_31 (by decide) ?_
        obtain ⟨q16, hf⟩ := ck_e hf
        obtain ⟨n17, tn17, in17⟩ := ix_e q16
        refine e_iald (pc := 33) C dX12_getOut_33 tn17 in17 ?_
        rcases it_e hf with ⟨c18, hf⟩ | ⟨c18, hf⟩
        · refine e_icmp_ne (pc := 34) (tgt := 51) C dX12_getOut_34 (by decide) (fun q => absurd c18 q) (fun _ => ?_)
          refine e_aload_n (pc := 37) C dX12_getOut_37 0 rfl rfl ?_
          refine e_getr (pc := 38) 12 10 C dX12_getOut_38 (by decide) (by decide) g1411 rfl t11 ?_
          obtain ⟨b19, eb19, hf⟩ := ob_e hf
          refine e_rf eb19 ?_
          refine e_iload_n (pc := 41) C dX12_getOut_41 1 rfl rfl ?_
          refine e_iconst (v := (0 : Int32)) (pc := 42) C dX12_getOut_42 (by decide) ?_
          obtain ⟨q20, hf⟩ := ck_e hf
          obtain ⟨n21, tn21, in21⟩ := ix_e q20
          refine e_iast (pc := 43) C dX12_getOut_43 tn21 in21 ?_
          obtain ⟨h22, eh22, hf⟩ := nn_e hf
          refine e_hp eh22 ?_
          have uh22 : m_t h22 = m_t h6 := by rw [eh22]; exact rfl
          refine e_aload_n (pc := 44) C dX12_getOut_44 0 rfl rfl ?_
          refine e_getr (pc := 45) 12 9 C dX12_getOut_45 (by decide) (by decide) g1410 rfl (e_mt uh22 t11) ?_
          obtain ⟨b23, eb23, hf⟩ := ob_e hf
          refine e_rf eb23 ?_
          refine e_iload_n (pc := 48) C dX12_getOut_48 1 rfl rfl ?_
          refine e_iconst (v := (-1 : Int32)) (pc := 49) C dX12_getOut_49 (by decide) ?_
          obtain ⟨q24, hf⟩ := ck_e hf
          obtain ⟨n25, tn25, in25⟩ := ix_e q24
          refine e_iast (pc := 50) C dX12_getOut_50 tn25 in25 ?_
          obtain ⟨h26, eh26, hf⟩ := nn_e hf
          refine e_hp eh26 ?_
          have uh26 : m_t h26 = m_t h6 := by rw [eh26]; exact uh22
          exact W_51 h26 hf
        · refine e_icmp_ne (pc := 34) (tgt := 51) C dX12_getOut_34 (by decide) (fun _ => ?_) (fun q => absurd q c18)
          exact W_51 h6 hf
set_option maxHeartbeats 4000000 in
set_option maxRecDepth 100000 in
theorem ct_X12_getOut {G : GG} {l : Launch} {v0 : Nat} {h : AH} {y : AH} (hf : f_X12_getOut G v0 h = some y) : Ct G l yX12_getOut cX12_getOut 2 none 1 21 0 0 [.ref v0] h (none, y) := by
  refine ct_of (by decide) (Nat.le_of_ble_eq_true rfl) ?_
  intro p e s m args below meth c C hm hr hin
  have C : Cx G cX12_getOut RX12 p s m args meth c := C
  refine e_lv (lv2 := [(0, .ref v0)]) [0] rfl ?_
  unfold f_X12_getOut at hf
  refine e_iconst (v := (0 : Int32)) (pc := 0) C dX12_getOut_0 (by decide) ?_
  refine e_istore_n (pc := 1) (lv2 := [(1, .int (0 : Int32)), (0, .ref v0)]) C hm dX12_getOut_1 rfl (by decide) rfl ?_
  refine e_lv (lv2 := [(0, .ref v0), (1, .int (0 : Int32))]) [1, 0] rfl ?_
  exact el_X12_getOut_2 C hm hr hin bN (0 : Int32) h hf
theorem dX12_ridersMany_0 : decode cX12_ridersMany 0 = .ok (.iconst 0, 1) := by decide +kernel
theorem dX12_ridersMany_1 : decode cX12_ridersMany 1 = .ok (.istore_n 1, 1) := by decide +kernel
theorem dX12_ridersMany_2 : decode cX12_ridersMany 2 = .ok (.iconst 0, 1) := by decide +kernel
theorem dX12_ridersMany_3 : decode cX12_ridersMany 3 = .ok (.istore_n 2, 1) := by decide +kernel
theorem dX12_ridersMany_4 : decode cX12_ridersMany 4 = .ok (.iload_n 2, 1) := by decide +kernel
theorem dX12_ridersMany_5 : decode cX12_ridersMany 5 = .ok (.aload_n 0, 1) := by decide +kernel
theorem dX12_ridersMany_6 : decode cX12_ridersMany 6 = .ok (.getfield 9, 3) := by decide +kernel
theorem dX12_ridersMany_9 : decode cX12_ridersMany 9 = .ok (.bipush 6, 2) := by decide +kernel
theorem dX12_ridersMany_11 : decode cX12_ridersMany 11 = .ok (.iaload, 1) := by decide +kernel
theorem dX12_ridersMany_12 : decode cX12_ridersMany 12 = .ok (.if_icmp .ge 18, 3) := by decide +kernel
theorem dX12_ridersMany_15 : decode cX12_ridersMany 15 = .ok (.iload_n 1, 1) := by decide +kernel
theorem dX12_ridersMany_16 : decode cX12_ridersMany 16 = .ok (.aload_n 0, 1) := by decide +kernel
theorem dX12_ridersMany_17 : decode cX12_ridersMany 17 = .ok (.getfield 37, 3) := by decide +kernel
theorem dX12_ridersMany_20 : decode cX12_ridersMany 20 = .ok (.iload_n 2, 1) := by decide +kernel
theorem dX12_ridersMany_21 : decode cX12_ridersMany 21 = .ok (.iaload, 1) := by decide +kernel
theorem dX12_ridersMany_22 : decode cX12_ridersMany 22 = .ok (.iadd, 1) := by decide +kernel
theorem dX12_ridersMany_23 : decode cX12_ridersMany 23 = .ok (.istore_n 1, 1) := by decide +kernel
theorem dX12_ridersMany_24 : decode cX12_ridersMany 24 = .ok (.iinc 2 1, 3) := by decide +kernel
theorem dX12_ridersMany_27 : decode cX12_ridersMany 27 = .ok (.goto (-23), 3) := by decide +kernel
theorem dX12_ridersMany_30 : decode cX12_ridersMany 30 = .ok (.iload_n 1, 1) := by decide +kernel
theorem dX12_ridersMany_31 : decode cX12_ridersMany 31 = .ok (.ireturn, 1) := by decide +kernel
def F_X12_ridersMany_4 (G : GG) (v0 : Nat) (self_4 : Int32 → Int32 → AH → Option (Int32 × AH)) (v1 : Int32) (v2 : Int32) (h : AH) : Option (Int32 × AH) :=
ck (m_t h v0 = .inl 12) <|
ob (m_r h v0 1) fun b2 =>
ck (ixb h b2 .int (6 : Int32) = true) <|
if (m_i h b2 (6 : Int32).toNatClampNeg) ≤ v2 then (some (v1, h)) else
ob (m_r h v0 10) fun b6 =>
ck (ixb h b6 .int v2 = true) <|
nn (v1 + (m_i h b6 v2.toNatClampNeg)) fun x9 =>
nn (v2 + (1 : Int32)) fun x10 =>
self_4 x9 x10 h
def f_X12_ridersMany (G : GG) (v0 : Nat) (h : AH) : Option (Int32 × AH) :=
lq2 (F_X12_ridersMany_4 G v0 ) bN (0 : Int32) (0 : Int32) h
set_option maxHeartbeats 4000000 in
set_option maxRecDepth 100000 in
theorem el_X12_ridersMany_4 {G : GG} {p : Program} {l : Launch} {e : Env} {s : State} {m : MethodId} {args : Array Value} {below : List Frame} {meth : Method} {c : Code} {y : Int32 × AH} (C : Cx G cX12_ridersMany RX12 p s m args meth c) (hm : c.maxLocals = 3) (hr : meth.sig.returnType = (some .int)) (hin : meth.name = yX12_ridersMany.name) {v0 : Nat}  :
    ∀ (n : Nat) (v1 : Int32) (v2 : Int32) (h : AH), lq2 (F_X12_ridersMany_4 G v0) n v1 v2 h = some y → EE G p l e ({ frames := 0, cells := 0, slots := 0, locals := 0 } : Room) s m args below meth c (some (.int y.1), y.2) 0 0 4 [(0, .ref v0), (1, .int v1), (2, .int v2)] [] h 0 0 := by
  intro n
  induction n with
  | zero => intro v1 v2 h hf; exact (no_e hf).elim
  | succ n ih_4 =>
    intro v1 v2 h hf
    have hf : F_X12_ridersMany_4 G v0 (lq2 (F_X12_ridersMany_4 G v0) n) v1 v2 h = some y := hf
    generalize lq2 (F_X12_ridersMany_4 G v0) n = self_4 at hf ih_4
    unfold F_X12_ridersMany_4 at hf
    refine e_iload_n (pc := 4) C dX12_ridersMany_4 2 rfl rfl ?_
    refine e_aload_n (pc := 5) C dX12_ridersMany_5 0 rfl rfl ?_
    obtain ⟨t1, hf⟩ := ck_e hf
    refine e_getr (pc := 6) 12 1 C dX12_ridersMany_6 (by decide) (by decide) g1402 rfl t1 ?_
    obtain ⟨b2, eb2, hf⟩ := ob_e hf
    refine e_rf eb2 ?_
    refine e_bipush (v := (6 : Int32)) (pc := 9) C dX12_ridersMany_9 (by decide) ?_
    obtain ⟨q3, hf⟩ := ck_e hf
    obtain ⟨n4, tn4, in4⟩ := ix_e q3
    refine e_iald (pc := 11) C dX12_ridersMany_11 tn4 in4 ?_
    rcases it_e hf with ⟨c5, hf⟩ | ⟨c5, hf⟩
    · refine e_icmp_ge (pc := 12) (tgt := 30) C dX12_ridersMany_12 (by decide) (fun _ => ?_) (fun q => absurd c5 q)
      refine e_iload_n (pc := 30) C dX12_ridersMany_30 1 rfl rfl ?_
      obtain rfl := so_e hf
      exact e_iret (pc := 31) C hr dX12_ridersMany_31 (Nat.le_of_ble_eq_true rfl) (Nat.le_of_ble_eq_true rfl)
    · refine e_icmp_ge (pc := 12) (tgt := 30) C dX12_ridersMany_12 (by decide) (fun q => absurd q c5) (fun _ => ?_)
      refine e_iload_n (pc := 15) C dX12_ridersMany_15 1 rfl rfl ?_
      refine e_aload_n (pc := 16) C dX12_ridersMany_16 0 rfl rfl ?_
      refine e_getr (pc := 17) 12 10 C dX12_ridersMany_17 (by decide) (by decide) g1411 rfl t1 ?_
      obtain ⟨b6, eb6, hf⟩ := ob_e hf
      refine e_rf eb6 ?_
      refine e_iload_n (pc := 20) C dX12_ridersMany_20 2 rfl rfl ?_
      obtain ⟨q7, hf⟩ := ck_e hf
      obtain ⟨n8, tn8, in8⟩ := ix_e q7
      refine e_iald (pc := 21) C dX12_ridersMany_21 tn8 in8 ?_
      refine e_iadd (pc := 22) C dX12_ridersMany_22 ?_
      obtain ⟨x9, ex9, hf⟩ := nn_e hf
      refine e_topi ex9 ?_
      refine e_istore_n (pc := 23) (lv2 := [(1, .int x9), (0, .ref v0), (2, .int v2)]) C hm dX12_ridersMany_23 rfl (by decide) rfl ?_
      obtain ⟨x10, ex10, hf⟩ := nn_e hf
      refine e_iinc (pc := 24) (v := x10) (lv2 := [(2, .int x10), (1, .int x9), (0, .ref v0)]) C hm dX12_ridersMany_24 2 rfl (by rw [ex10]; rfl) (by decide) rfl ?_
      refine e_goto (pc := 27) (tgt := 4) C dX12_ridersMany_27 (by decide) ?_
      refine e_lv (lv2 := [(0, .ref v0), (1, .int x9), (2, .int x10)]) [2, 1, 0] rfl ?_
      exact ih_4 x9 x10 h hf
set_option maxHeartbeats 4000000 in
set_option maxRecDepth 100000 in
theorem ct_X12_ridersMany {G : GG} {l : Launch} {v0 : Nat} {h : AH} {y : Int32 × AH} (hf : f_X12_ridersMany G v0 h = some y) : Ct G l yX12_ridersMany cX12_ridersMany 3 (some .int) 0 0 0 0 [.ref v0] h (some (.int y.1), y.2) := by
  refine ct_of (by decide) (Nat.le_of_ble_eq_true rfl) ?_
  intro p e s m args below meth c C hm hr hin
  have C : Cx G cX12_ridersMany RX12 p s m args meth c := C
  refine e_lv (lv2 := [(0, .ref v0)]) [0] rfl ?_
  unfold f_X12_ridersMany at hf
  refine e_iconst (v := (0 : Int32)) (pc := 0) C dX12_ridersMany_0 (by decide) ?_
  refine e_istore_n (pc := 1) (lv2 := [(1, .int (0 : Int32)), (0, .ref v0)]) C hm dX12_ridersMany_1 rfl (by decide) rfl ?_
  refine e_iconst (v := (0 : Int32)) (pc := 2) C dX12_ridersMany_2 (by decide) ?_
  refine e_istore_n (pc := 3) (lv2 := [(2, .int (0 : Int32)), (1, .int (0 : Int32)), (0, .ref v0)]) C hm dX12_ridersMany_3 rfl (by decide) rfl ?_
  refine e_lv (lv2 := [(0, .ref v0), (1, .int (0 : Int32)), (2, .int (0 : Int32))]) [2, 1, 0] rfl ?_
  exact el_X12_ridersMany_4 C hm hr hin bN (0 : Int32) (0 : Int32) h hf
theorem dX12_nextTunnel_0 : decode cX12_nextTunnel 0 = .ok (.bipush 99, 2) := by decide +kernel
theorem dX12_nextTunnel_2 : decode cX12_nextTunnel 2 = .ok (.aload_n 0, 1) := by decide +kernel
theorem dX12_nextTunnel_3 : decode cX12_nextTunnel 3 = .ok (.getfield 9, 3) := by decide +kernel
theorem dX12_nextTunnel_6 : decode cX12_nextTunnel 6 = .ok (.bipush 10, 2) := by decide +kernel
theorem dX12_nextTunnel_8 : decode cX12_nextTunnel 8 = .ok (.iaload, 1) := by decide +kernel
theorem dX12_nextTunnel_9 : decode cX12_nextTunnel 9 = .ok (.iadd, 1) := by decide +kernel
theorem dX12_nextTunnel_10 : decode cX12_nextTunnel 10 = .ok (.istore_n 1, 1) := by decide +kernel
theorem dX12_nextTunnel_11 : decode cX12_nextTunnel 11 = .ok (.iconst 0, 1) := by decide +kernel
theorem dX12_nextTunnel_12 : decode cX12_nextTunnel 12 = .ok (.istore_n 2, 1) := by decide +kernel
theorem dX12_nextTunnel_13 : decode cX12_nextTunnel 13 = .ok (.iconst 0, 1) := by decide +kernel
theorem dX12_nextTunnel_14 : decode cX12_nextTunnel 14 = .ok (.istore_n 3, 1) := by decide +kernel
theorem dX12_nextTunnel_15 : decode cX12_nextTunnel 15 = .ok (.iload_n 3, 1) := by decide +kernel
theorem dX12_nextTunnel_16 : decode cX12_nextTunnel 16 = .ok (.aload_n 0, 1) := by decide +kernel
theorem dX12_nextTunnel_17 : decode cX12_nextTunnel 17 = .ok (.getfield 9, 3) := by decide +kernel
theorem dX12_nextTunnel_20 : decode cX12_nextTunnel 20 = .ok (.bipush 8, 2) := by decide +kernel
theorem dX12_nextTunnel_22 : decode cX12_nextTunnel 22 = .ok (.iaload, 1) := by decide +kernel
theorem dX12_nextTunnel_23 : decode cX12_nextTunnel 23 = .ok (.if_icmp .ge 48, 3) := by decide +kernel
theorem dX12_nextTunnel_26 : decode cX12_nextTunnel 26 = .ok (.aload_n 0, 1) := by decide +kernel
theorem dX12_nextTunnel_27 : decode cX12_nextTunnel 27 = .ok (.getfield 46, 3) := by decide +kernel
theorem dX12_nextTunnel_30 : decode cX12_nextTunnel 30 = .ok (.iload_n 3, 1) := by decide +kernel
theorem dX12_nextTunnel_31 : decode cX12_nextTunnel 31 = .ok (.iaload, 1) := by decide +kernel
theorem dX12_nextTunnel_32 : decode cX12_nextTunnel 32 = .ok (.aload_n 0, 1) := by decide +kernel
theorem dX12_nextTunnel_33 : decode cX12_nextTunnel 33 = .ok (.getfield 9, 3) := by decide +kernel
theorem dX12_nextTunnel_36 : decode cX12_nextTunnel 36 = .ok (.bipush 10, 2) := by decide +kernel
theorem dX12_nextTunnel_38 : decode cX12_nextTunnel 38 = .ok (.iaload, 1) := by decide +kernel
theorem dX12_nextTunnel_39 : decode cX12_nextTunnel 39 = .ok (.if_icmp .le 26, 3) := by decide +kernel
theorem dX12_nextTunnel_42 : decode cX12_nextTunnel 42 = .ok (.iload_n 2, 1) := by decide +kernel
theorem dX12_nextTunnel_43 : decode cX12_nextTunnel 43 = .ok (.ifCond .eq 13, 3) := by decide +kernel
theorem dX12_nextTunnel_46 : decode cX12_nextTunnel 46 = .ok (.aload_n 0, 1) := by decide +kernel
theorem dX12_nextTunnel_47 : decode cX12_nextTunnel 47 = .ok (.getfield 46, 3) := by decide +kernel
theorem dX12_nextTunnel_50 : decode cX12_nextTunnel 50 = .ok (.iload_n 3, 1) := by decide +kernel
theorem dX12_nextTunnel_51 : decode cX12_nextTunnel 51 = .ok (.iaload, 1) := by decide +kernel
theorem dX12_nextTunnel_52 : decode cX12_nextTunnel 52 = .ok (.iload_n 1, 1) := by decide +kernel
theorem dX12_nextTunnel_53 : decode cX12_nextTunnel 53 = .ok (.if_icmp .ge 12, 3) := by decide +kernel
theorem dX12_nextTunnel_56 : decode cX12_nextTunnel 56 = .ok (.aload_n 0, 1) := by decide +kernel
theorem dX12_nextTunnel_57 : decode cX12_nextTunnel 57 = .ok (.getfield 46, 3) := by decide +kernel
theorem dX12_nextTunnel_60 : decode cX12_nextTunnel 60 = .ok (.iload_n 3, 1) := by decide +kernel
theorem dX12_nextTunnel_61 : decode cX12_nextTunnel 61 = .ok (.iaload, 1) := by decide +kernel
theorem dX12_nextTunnel_62 : decode cX12_nextTunnel 62 = .ok (.istore_n 1, 1) := by decide +kernel
theorem dX12_nextTunnel_63 : decode cX12_nextTunnel 63 = .ok (.iconst 1, 1) := by decide +kernel
theorem dX12_nextTunnel_64 : decode cX12_nextTunnel 64 = .ok (.istore_n 2, 1) := by decide +kernel
theorem dX12_nextTunnel_65 : decode cX12_nextTunnel 65 = .ok (.iinc 3 1, 3) := by decide +kernel
theorem dX12_nextTunnel_68 : decode cX12_nextTunnel 68 = .ok (.goto (-53), 3) := by decide +kernel
theorem dX12_nextTunnel_71 : decode cX12_nextTunnel 71 = .ok (.iload_n 1, 1) := by decide +kernel
theorem dX12_nextTunnel_72 : decode cX12_nextTunnel 72 = .ok (.aload_n 0, 1) := by decide +kernel
theorem dX12_nextTunnel_73 : decode cX12_nextTunnel 73 = .ok (.getfield 9, 3) := by decide +kernel
theorem dX12_nextTunnel_76 : decode cX12_nextTunnel 76 = .ok (.bipush 10, 2) := by decide +kernel
theorem dX12_nextTunnel_78 : decode cX12_nextTunnel 78 = .ok (.iaload, 1) := by decide +kernel
theorem dX12_nextTunnel_79 : decode cX12_nextTunnel 79 = .ok (.isub, 1) := by decide +kernel
theorem dX12_nextTunnel_80 : decode cX12_nextTunnel 80 = .ok (.ireturn, 1) := by decide +kernel
def F_X12_nextTunnel_15 (G : GG) (v0 : Nat) (K_71 : Int32 → AH → Option (Int32 × AH)) (self_15 : Int32 → Int32 → Int32 → AH → Option (Int32 × AH)) (v1 : Int32) (v2 : Int32) (v3 : Int32) (h : AH) : Option (Int32 × AH) :=
ck (m_t h v0 = .inl 12) <|
ob (m_r h v0 1) fun b7 =>
ck (ixb h b7 .int (8 : Int32) = true) <|
if (m_i h b7 (8 : Int32).toNatClampNeg) ≤ v3 then (K_71 v1 h) else
ob (m_r h v0 13) fun b11 =>
ck (ixb h b11 .int v3 = true) <|
ob (m_r h v0 1) fun b14 =>
ck (ixb h b14 .int (10 : Int32) = true) <|
nn (fun (v1_65 : Int32) (v2_65 : Int32) => (nn (v3 + (1 : Int32)) fun x17 =>
self_15 v1_65 v2_65 x17 h)) fun j_65 =>
if (m_i h b11 v3.toNatClampNeg) ≤ (m_i h b14 (10 : Int32).toNatClampNeg) then (j_65 v1 v2) else
nn (fun (uu_56 : Unit) => (ob (m_r h v0 13) fun b19 =>
ck (ixb h b19 .int v3 = true) <|
nn (m_i h b19 v3.toNatClampNeg) fun x22 =>
j_65 x22 (1 : Int32))) fun j_56 =>
if v2 = 0 then (j_56 ()) else
ob (m_r h v0 13) fun b24 =>
ck (ixb h b24 .int v3 = true) <|
if v1 ≤ (m_i h b24 v3.toNatClampNeg) then (j_65 v1 v2) else
j_56 ()
def f_X12_nextTunnel (G : GG) (v0 : Nat) (h : AH) : Option (Int32 × AH) :=
ck (m_t h v0 = .inl 12) <|
ob (m_r h v0 1) fun b2 =>
ck (ixb h b2 .int (10 : Int32) = true) <|
nn ((99 : Int32) + (m_i h b2 (10 : Int32).toNatClampNeg)) fun x5 =>
lq3 (F_X12_nextTunnel_15 G v0 (fun (v1_71 : Int32) (h_71 : AH) => (ck (m_t h_71 v0 = .inl 12) <|
ob (m_r h_71 v0 1) fun b29 =>
ck (ixb h_71 b29 .int (10 : Int32) = true) <|
some (v1_71 - (m_i h_71 b29 (10 : Int32).toNatClampNeg), h_71)))) bN x5 (0 : Int32) (0 : Int32) h
set_option maxHeartbeats 4000000 in
set_option maxRecDepth 100000 in
theorem el_X12_nextTunnel_15 {G : GG} {p : Program} {l : Launch} {e : Env} {s : State} {m : MethodId} {args : Array Value} {below : List Frame} {meth : Method} {c : Code} {y : Int32 × AH} (C : Cx G cX12_nextTunnel RX12 p s m args meth c) (hm : c.maxLocals = 4) (hr : meth.sig.returnType = (some .int)) (hin : meth.name = yX12_nextTunnel.name) {v0 : Nat} {K_71 : Int32 → AH → Option (Int32 × AH)} (hK_71 : ∀ (w1 : Int32) (h : AH), K_71 w1 h = some y → EE G p l e ({ frames := 0, cells := 0, slots := 0, locals := 0 } : Room) s m args below meth c (some (.int y.1), y.2) 0 0 71 [(0, .ref v0), (1, .int w1)] [] h 0 0) :
    ∀ (n : Nat) (v1 : Int32) (v2 : Int32) (v3 : Int32) (h : AH), lq3 (F_X12_nextTunnel_15 G v0 K_71) n v1 v2 v3 h = some y → EE G p l e ({ frames := 0, cells := 0, slots := 0, locals := 0 } : Room) s m args below meth c (some (.int y.1), y.2) 0 0 15 [(0, .ref v0), (1, .int v1), (2, .int v2), (3, .int v3)] [] h 0 0 := by
  intro n
  induction n with
  | zero => intro v1 v2 v3 h hf; exact (no_e hf).elim
  | succ n ih_15 =>
    intro v1 v2 v3 h hf
    have hf : F_X12_nextTunnel_15 G v0 K_71 (lq3 (F_X12_nextTunnel_15 G v0 K_71) n) v1 v2 v3 h = some y := hf
    generalize lq3 (F_X12_nextTunnel_15 G v0 K_71) n = self_15 at hf ih_15
    unfold F_X12_nextTunnel_15 at hf
    refine e_iload_n (pc := 15) C dX12_nextTunnel_15 3 rfl rfl ?_
    refine e_aload_n (pc := 16) C dX12_nextTunnel_16 0 rfl rfl ?_
    obtain ⟨t6, hf⟩ := ck_e hf
    refine e_getr (pc := 17) 12 1 C dX12_nextTunnel_17 (by decide) (by decide) g1402 rfl t6 ?_
    obtain ⟨b7, eb7, hf⟩ := ob_e hf
    refine e_rf eb7 ?_
    refine e_bipush (v := (8 : Int32)) (pc := 20) C dX12_nextTunnel_20 (by decide) ?_
    obtain ⟨q8, hf⟩ := ck_e hf
    obtain ⟨n9, tn9, in9⟩ := ix_e q8
    refine e_iald (pc := 22) C dX12_nextTunnel_22 tn9 in9 ?_
    rcases it_e hf with ⟨c10, hf⟩ | ⟨c10, hf⟩
    · refine e_icmp_ge (pc := 23) (tgt := 71) C dX12_nextTunnel_23 (by decide) (fun _ => ?_) (fun q => absurd c10 q)
      refine e_lv (lv2 := [(0, .ref v0), (1, .int v1)]) [0, 1] rfl ?_
      exact hK_71 v1 h hf
    · refine e_icmp_ge (pc := 23) (tgt := 71) C dX12_nextTunnel_23 (by decide) (fun q => absurd q c10) (fun _ => ?_)
      refine e_aload_n (pc := 26) C dX12_nextTunnel_26 0 rfl rfl ?_
      refine e_getr (pc := 27) 12 13 C dX12_nextTunnel_27 (by decide) (by decide) g1414 rfl t6 ?_
      obtain ⟨b11, eb11, hf⟩ := ob_e hf
      refine e_rf eb11 ?_
      refine e_iload_n (pc := 30) C dX12_nextTunnel_30 3 rfl rfl ?_
      obtain ⟨q12, hf⟩ := ck_e hf
      obtain ⟨n13, tn13, in13⟩ := ix_e q12
      refine e_iald (pc := 31) C dX12_nextTunnel_31 tn13 in13 ?_
      refine e_aload_n (pc := 32) C dX12_nextTunnel_32 0 rfl rfl ?_
      refine e_getr (pc := 33) 12 1 C dX12_nextTunnel_33 (by decide) (by decide) g1402 rfl t6 ?_
      obtain ⟨b14, eb14, hf⟩ := ob_e hf
      refine e_rf eb14 ?_
      refine e_bipush (v := (10 : Int32)) (pc := 36) C dX12_nextTunnel_36 (by decide) ?_
      obtain ⟨q15, hf⟩ := ck_e hf
      obtain ⟨n16, tn16, in16⟩ := ix_e q15
      refine e_iald (pc := 38) C dX12_nextTunnel_38 tn16 in16 ?_
      obtain ⟨j_65, ej_65, hf⟩ := nn_e hf
      have W_65 : ∀ (v1_65 : Int32) (v2_65 : Int32), j_65 v1_65 v2_65 = some y → EE G p l e ({ frames := 0, cells := 0, slots := 0, locals := 0 } : Room) s m args below meth c (some (.int y.1), y.2) 0 0 65 [(0, .ref v0), (1, .int v1_65), (2, .int v2_65), (3, .int v3)] [] h 0 0 := by
        intro v1_65 v2_65 hf
        rw [ej_65] at hf
        obtain ⟨x17, ex17, hf⟩ := nn_e hf
        refine e_iinc (pc := 65) (v := x17) (lv2 := [(3, .int x17), (0, .ref v0), (1, .int v1_65), (2, .int v2_65)]) C hm dX12_nextTunnel_65 3 rfl (by rw [ex17]; rfl) (by decide) rfl ?_
        refine e_goto (pc := 68) (tgt := 15) C dX12_nextTunnel_68 (by decide) ?_
        refine e_lv (lv2 := [(0, .ref v0), (1, .int v1_65), (2, .int v2_65), (3, .int x17)]) [1, 2, 3, 0] rfl ?_
        exact ih_15 v1_65 v2_65 x17 h hf
      rcases it_e hf with ⟨c18, hf⟩ | ⟨c18, hf⟩
      · refine e_icmp_le (pc := 39) (tgt := 65) C dX12_nextTunnel_39 (by decide) (fun _ => ?_) (fun q => absurd c18 q)
        exact W_65 v1 v2 hf
      · refine e_icmp_le (pc := 39) (tgt := 65) C dX12_nextTunnel_39 (by decide) (fun q => absurd q c18) (fun _ => ?_)
        refine e_iload_n (pc := 42) C dX12_nextTunnel_42 2 rfl rfl ?_
        obtain ⟨j_56, ej_56, hf⟩ := nn_e hf
        have W_56 : ∀ (uu_56 : Unit), j_56 uu_56 = some y → EE G p l e ({ frames := 0, cells := 0, slots := 0, locals := 0 } : Room) s m args below meth c (some (.int y.1), y.2) 0 0 56 [(0, .ref v0), (3, .int v3)] [] h 0 0 := by
          intro uu_56 hf
          rw [ej_56] at hf
          refine e_aload_n (pc := 56) C dX12_nextTunnel_56 0 rfl rfl ?_
          refine e_getr (pc := 57) 12 13 C dX12_nextTunnel_57 (by decide) (by decide) g1414 rfl t6 ?_
          obtain ⟨b19, eb19, hf⟩ := ob_e hf
          refine e_rf eb19 ?_
          refine e_iload_n (pc := 60) C dX12_nextTunnel_60 1 rfl rfl ?_
          obtain ⟨q20, hf⟩ := ck_e hf
          obtain ⟨n21, tn21, in21⟩ := ix_e q20
          refine e_iald (pc := 61) C dX12_nextTunnel_61 tn21 in21 ?_
          obtain ⟨x22, ex22, hf⟩ := nn_e hf
          refine e_topi ex22 ?_
          refine e_istore_n (pc := 62) (lv2 := [(1, .int x22), (0, .ref v0), (3, .int v3)]) C hm dX12_nextTunnel_62 rfl (by decide) rfl ?_
          refine e_iconst (v := (1 : Int32)) (pc := 63) C dX12_nextTunnel_63 (by decide) ?_
          refine e_istore_n (pc := 64) (lv2 := [(2, .int (1 : Int32)), (1, .int x22), (0, .ref v0), (3, .int v3)]) C hm dX12_nextTunnel_64 rfl (by decide) rfl ?_
          refine e_lv (lv2 := [(0, .ref v0), (1, .int x22), (2, .int (1 : Int32)), (3, .int v3)]) [2, 1, 0, 3] rfl ?_
          exact W_65 x22 (1 : Int32) hf
        rcases it_e hf with ⟨c23, hf⟩ | ⟨c23, hf⟩
        · refine e_if_eq (pc := 43) (tgt := 56) C dX12_nextTunnel_43 (by decide) (fun _ => ?_) (fun q => absurd c23 q)
          refine e_lv (lv2 := [(0, .ref v0), (3, .int v3)]) [0, 3] rfl ?_
          exact W_56 () hf
        · refine e_if_eq (pc := 43) (tgt := 56) C dX12_nextTunnel_43 (by decide) (fun q => absurd q c23) (fun _ => ?_)
          refine e_aload_n (pc := 46) C dX12_nextTunnel_46 0 rfl rfl ?_
          refine e_getr (pc := 47) 12 13 C dX12_nextTunnel_47 (by decide) (by decide) g1414 rfl t6 ?_
          obtain ⟨b24, eb24, hf⟩ := ob_e hf
          refine e_rf eb24 ?_
          refine e_iload_n (pc := 50) C dX12_nextTunnel_50 3 rfl rfl ?_
          obtain ⟨q25, hf⟩ := ck_e hf
          obtain ⟨n26, tn26, in26⟩ := ix_e q25
          refine e_iald (pc := 51) C dX12_nextTunnel_51 tn26 in26 ?_
          refine e_iload_n (pc := 52) C dX12_nextTunnel_52 1 rfl rfl ?_
          rcases it_e hf with ⟨c27, hf⟩ | ⟨c27, hf⟩
          · refine e_icmp_ge (pc := 53) (tgt := 65) C dX12_nextTunnel_53 (by decide) (fun _ => ?_) (fun q => absurd c27 q)
            exact W_65 v1 v2 hf
          · refine e_icmp_ge (pc := 53) (tgt := 65) C dX12_nextTunnel_53 (by decide) (fun q => absurd q c27) (fun _ => ?_)
            refine e_lv (lv2 := [(0, .ref v0), (3, .int v3)]) [0, 3] rfl ?_
            exact W_56 () hf
set_option maxHeartbeats 4000000 in
set_option maxRecDepth 100000 in
theorem ct_X12_nextTunnel {G : GG} {l : Launch} {v0 : Nat} {h : AH} {y : Int32 × AH} (hf : f_X12_nextTunnel G v0 h = some y) : Ct G l yX12_nextTunnel cX12_nextTunnel 4 (some .int) 0 0 0 0 [.ref v0] h (some (.int y.1), y.2) := by
  refine ct_of (by decide) (Nat.le_of_ble_eq_true rfl) ?_
  intro p e s m args below meth c C hm hr hin
  have C : Cx G cX12_nextTunnel RX12 p s m args meth c := C
  refine e_lv (lv2 := [(0, .ref v0)]) [0] rfl ?_
  unfold f_X12_nextTunnel at hf
  refine e_bipush (v := (99 : Int32)) (pc := 0) C dX12_nextTunnel_0 (by decide) ?_
  refine e_aload_n (pc := 2) C dX12_nextTunnel_2 0 rfl rfl ?_
  obtain ⟨t1, hf⟩ := ck_e hf
  refine e_getr (pc := 3) 12 1 C dX12_nextTunnel_3 (by decide) (by decide) g1402 rfl t1 ?_
  obtain ⟨b2, eb2, hf⟩ := ob_e hf
  refine e_rf eb2 ?_
  refine e_bipush (v := (10 : Int32)) (pc := 6) C dX12_nextTunnel_6 (by decide) ?_
  obtain ⟨q3, hf⟩ := ck_e hf
  obtain ⟨n4, tn4, in4⟩ := ix_e q3
  refine e_iald (pc := 8) C dX12_nextTunnel_8 tn4 in4 ?_
  refine e_iadd (pc := 9) C dX12_nextTunnel_9 ?_
  obtain ⟨x5, ex5, hf⟩ := nn_e hf
  refine e_topi ex5 ?_
  refine e_istore_n (pc := 10) (lv2 := [(1, .int x5), (0, .ref v0)]) C hm dX12_nextTunnel_10 rfl (by decide) rfl ?_
  refine e_iconst (v := (0 : Int32)) (pc := 11) C dX12_nextTunnel_11 (by decide) ?_
  refine e_istore_n (pc := 12) (lv2 := [(2, .int (0 : Int32)), (1, .int x5), (0, .ref v0)]) C hm dX12_nextTunnel_12 rfl (by decide) rfl ?_
  refine e_iconst (v := (0 : Int32)) (pc := 13) C dX12_nextTunnel_13 (by decide) ?_
  refine e_istore_n (pc := 14) (lv2 := [(3, .int (0 : Int32)), (2, .int (0 : Int32)), (1, .int x5), (0, .ref v0)]) C hm dX12_nextTunnel_14 rfl (by decide) rfl ?_
  refine e_lv (lv2 := [(0, .ref v0), (1, .int x5), (2, .int (0 : Int32)), (3, .int (0 : Int32))]) [3, 2, 1, 0] rfl ?_
  refine el_X12_nextTunnel_15 C hm hr hin (fun v1_71 h_71 hf => ?_) bN x5 (0 : Int32) (0 : Int32) h hf
  refine e_iload_n (pc := 71) C dX12_nextTunnel_71 1 rfl rfl ?_
  refine e_aload_n (pc := 72) C dX12_nextTunnel_72 0 rfl rfl ?_
  obtain ⟨t28, hf⟩ := ck_e hf
  refine e_getr (pc := 73) 12 1 C dX12_nextTunnel_73 (by decide) (by decide) g1402 rfl t28 ?_
  obtain ⟨b29, eb29, hf⟩ := ob_e hf
  refine e_rf eb29 ?_
  refine e_bipush (v := (10 : Int32)) (pc := 76) C dX12_nextTunnel_76 (by decide) ?_
  obtain ⟨q30, hf⟩ := ck_e hf
  obtain ⟨n31, tn31, in31⟩ := ix_e q30
  refine e_iald (pc := 78) C dX12_nextTunnel_78 tn31 in31 ?_
  refine e_isub (pc := 79) C dX12_nextTunnel_79 ?_
  obtain rfl := so_e hf
  exact e_iret (pc := 80) C hr dX12_nextTunnel_80 (Nat.le_of_ble_eq_true rfl) (Nat.le_of_ble_eq_true rfl)
theorem dX12_middleOf_0 : decode cX12_middleOf 0 = .ok (.iload_n 1, 1) := by decide +kernel
theorem dX12_middleOf_1 : decode cX12_middleOf 1 = .ok (.iconst 1, 1) := by decide +kernel
theorem dX12_middleOf_2 : decode cX12_middleOf 2 = .ok (.iadd, 1) := by decide +kernel
theorem dX12_middleOf_3 : decode cX12_middleOf 3 = .ok (.iconst 2, 1) := by decide +kernel
theorem dX12_middleOf_4 : decode cX12_middleOf 4 = .ok (.idiv, 1) := by decide +kernel
theorem dX12_middleOf_5 : decode cX12_middleOf 5 = .ok (.istore_n 2, 1) := by decide +kernel
theorem dX12_middleOf_6 : decode cX12_middleOf 6 = .ok (.iconst 0, 1) := by decide +kernel
theorem dX12_middleOf_7 : decode cX12_middleOf 7 = .ok (.istore_n 3, 1) := by decide +kernel
theorem dX12_middleOf_8 : decode cX12_middleOf 8 = .ok (.iload_n 3, 1) := by decide +kernel
theorem dX12_middleOf_9 : decode cX12_middleOf 9 = .ok (.bipush 6, 2) := by decide +kernel
theorem dX12_middleOf_11 : decode cX12_middleOf 11 = .ok (.if_icmp .ge 28, 3) := by decide +kernel
theorem dX12_middleOf_14 : decode cX12_middleOf 14 = .ok (.iload_n 1, 1) := by decide +kernel
theorem dX12_middleOf_15 : decode cX12_middleOf 15 = .ok (.ifCond .le 24, 3) := by decide +kernel
theorem dX12_middleOf_18 : decode cX12_middleOf 18 = .ok (.iload_n 2, 1) := by decide +kernel
theorem dX12_middleOf_19 : decode cX12_middleOf 19 = .ok (.aload_n 0, 1) := by decide +kernel
theorem dX12_middleOf_20 : decode cX12_middleOf 20 = .ok (.getfield 139, 3) := by decide +kernel
theorem dX12_middleOf_23 : decode cX12_middleOf 23 = .ok (.iload_n 3, 1) := by decide +kernel
theorem dX12_middleOf_24 : decode cX12_middleOf 24 = .ok (.iaload, 1) := by decide +kernel
theorem dX12_middleOf_25 : decode cX12_middleOf 25 = .ok (.isub, 1) := by decide +kernel
theorem dX12_middleOf_26 : decode cX12_middleOf 26 = .ok (.istore_n 2, 1) := by decide +kernel
theorem dX12_middleOf_27 : decode cX12_middleOf 27 = .ok (.iload_n 2, 1) := by decide +kernel
theorem dX12_middleOf_28 : decode cX12_middleOf 28 = .ok (.ifCond .gt 5, 3) := by decide +kernel
theorem dX12_middleOf_31 : decode cX12_middleOf 31 = .ok (.iload_n 3, 1) := by decide +kernel
theorem dX12_middleOf_32 : decode cX12_middleOf 32 = .ok (.ireturn, 1) := by decide +kernel
theorem dX12_middleOf_33 : decode cX12_middleOf 33 = .ok (.iinc 3 1, 3) := by decide +kernel
theorem dX12_middleOf_36 : decode cX12_middleOf 36 = .ok (.goto (-28), 3) := by decide +kernel
theorem dX12_middleOf_39 : decode cX12_middleOf 39 = .ok (.aload_n 0, 1) := by decide +kernel
theorem dX12_middleOf_40 : decode cX12_middleOf 40 = .ok (.getfield 9, 3) := by decide +kernel
theorem dX12_middleOf_43 : decode cX12_middleOf 43 = .ok (.bipush 13, 2) := by decide +kernel
theorem dX12_middleOf_45 : decode cX12_middleOf 45 = .ok (.iaload, 1) := by decide +kernel
theorem dX12_middleOf_46 : decode cX12_middleOf 46 = .ok (.ireturn, 1) := by decide +kernel
def F_X12_middleOf_8 (G : GG) (v0 : Nat) (v1 : Int32) (K_39 : AH → Option (Int32 × AH)) (self_8 : Int32 → Int32 → AH → Option (Int32 × AH)) (v2 : Int32) (v3 : Int32) (h : AH) : Option (Int32 × AH) :=
if (6 : Int32) ≤ v3 then (K_39 h) else
if v1 ≤ 0 then (K_39 h) else
ck (m_t h v0 = .inl 12) <|
ob (m_r h v0 52) fun b5 =>
ck (ixb h b5 .int v3 = true) <|
nn (v2 - (m_i h b5 v3.toNatClampNeg)) fun x8 =>
if 0 < x8 then (nn (v3 + (1 : Int32)) fun x10 =>
self_8 x8 x10 h) else
some (v3, h)
def f_X12_middleOf (G : GG) (v0 : Nat) (v1 : Int32) (h : AH) : Option (Int32 × AH) :=
nn ((v1 + (1 : Int32)) / (2 : Int32)) fun x1 =>
lq2 (F_X12_middleOf_8 G v0 v1 (fun (h_39 : AH) => (ck (m_t h_39 v0 = .inl 12) <|
ob (m_r h_39 v0 1) fun b12 =>
ck (ixb h_39 b12 .int (13 : Int32) = true) <|
some (m_i h_39 b12 (13 : Int32).toNatClampNeg, h_39)))) bN x1 (0 : Int32) h
set_option maxHeartbeats 4000000 in
set_option maxRecDepth 100000 in
theorem el_X12_middleOf_8 {G : GG} {p : Program} {l : Launch} {e : Env} {s : State} {m : MethodId} {args : Array Value} {below : List Frame} {meth : Method} {c : Code} {y : Int32 × AH} (C : Cx G cX12_middleOf RX12 p s m args meth c) (hm : c.maxLocals = 4) (hr : meth.sig.returnType = (some .int)) (hin : meth.name = yX12_middleOf.name) {v0 : Nat} {v1 : Int32} {K_39 : AH → Option (Int32 × AH)} (hK_39 : ∀ (h : AH), K_39 h = some y → EE G p l e ({ frames := 0, cells := 0, slots := 0, locals := 0 } : Room) s m args below meth c (some (.int y.1), y.2) 0 0 39 [(0, .ref v0)] [] h 0 0) :
    ∀ (n : Nat) (v2 : Int32) (v3 : Int32) (h : AH), lq2 (F_X12_middleOf_8 G v0 v1 K_39) n v2 v3 h = some y → EE G p l e ({ frames := 0, cells := 0, slots := 0, locals := 0 } : Room) s m args below meth c (some (.int y.1), y.2) 0 0 8 [(0, .ref v0), (1, .int v1), (2, .int v2), (3, .int v3)] [] h 0 0 := by
  intro n
  induction n with
  | zero => intro v2 v3 h hf; exact (no_e hf).elim
  | succ n ih_8 =>
    intro v2 v3 h hf
    have hf : F_X12_middleOf_8 G v0 v1 K_39 (lq2 (F_X12_middleOf_8 G v0 v1 K_39) n) v2 v3 h = some y := hf
    generalize lq2 (F_X12_middleOf_8 G v0 v1 K_39) n = self_8 at hf ih_8
    unfold F_X12_middleOf_8 at hf
    refine e_iload_n (pc := 8) C dX12_middleOf_8 3 rfl rfl ?_
    refine e_bipush (v := (6 : Int32)) (pc := 9) C dX12_middleOf_9 (by decide) ?_
    rcases it_e hf with ⟨c2, hf⟩ | ⟨c2, hf⟩
    · refine e_icmp_ge (pc := 11) (tgt := 39) C dX12_middleOf_11 (by decide) (fun _ => ?_) (fun q => absurd c2 q)
      refine e_lv (lv2 := [(0, .ref v0)]) [0] rfl ?_
      exact hK_39 h hf
    · refine e_icmp_ge (pc := 11) (tgt := 39) C dX12_middleOf_11 (by decide) (fun q => absurd q c2) (fun _ => ?_)
      refine e_iload_n (pc := 14) C dX12_middleOf_14 1 rfl rfl ?_
      rcases it_e hf with ⟨c3, hf⟩ | ⟨c3, hf⟩
      · refine e_if_le (pc := 15) (tgt := 39) C dX12_middleOf_15 (by decide) (fun _ => ?_) (fun q => absurd c3 q)
        refine e_lv (lv2 := [(0, .ref v0)]) [0] rfl ?_
        exact hK_39 h hf
      · refine e_if_le (pc := 15) (tgt := 39) C dX12_middleOf_15 (by decide) (fun q => absurd q c3) (fun _ => ?_)
        refine e_iload_n (pc := 18) C dX12_middleOf_18 2 rfl rfl ?_
        refine e_aload_n (pc := 19) C dX12_middleOf_19 0 rfl rfl ?_
        obtain ⟨t4, hf⟩ := ck_e hf
        refine e_getr (pc := 20) 12 52 C dX12_middleOf_20 (by decide) (by decide) g1453 rfl t4 ?_
        obtain ⟨b5, eb5, hf⟩ := ob_e hf
        refine e_rf eb5 ?_
        refine e_iload_n (pc := 23) C dX12_middleOf_23 3 rfl rfl ?_
        obtain ⟨q6, hf⟩ := ck_e hf
        obtain ⟨n7, tn7, in7⟩ := ix_e q6
        refine e_iald (pc := 24) C dX12_middleOf_24 tn7 in7 ?_
        refine e_isub (pc := 25) C dX12_middleOf_25 ?_
        obtain ⟨x8, ex8, hf⟩ := nn_e hf
        refine e_topi ex8 ?_
        refine e_istore_n (pc := 26) (lv2 := [(2, .int x8), (0, .ref v0), (1, .int v1), (3, .int v3)]) C hm dX12_middleOf_26 rfl (by decide) rfl ?_
        refine e_iload_n (pc := 27) C dX12_middleOf_27 0 rfl rfl ?_
        rcases it_e hf with ⟨c9, hf⟩ | ⟨c9, hf⟩
        · refine e_if_gt (pc := 28) (tgt := 33) C dX12_middleOf_28 (by decide) (fun _ => ?_) (fun q => absurd c9 q)
          obtain ⟨x10, ex10, hf⟩ := nn_e hf
          refine e_iinc (pc := 33) (v := x10) (lv2 := [(3, .int x10), (2, .int x8), (0, .ref v0), (1, .int v1)]) C hm dX12_middleOf_33 3 rfl (by rw [ex10]; rfl) (by decide) rfl ?_
          refine e_goto (pc := 36) (tgt := 8) C dX12_middleOf_36 (by decide) ?_
          refine e_lv (lv2 := [(0, .ref v0), (1, .int v1), (2, .int x8), (3, .int x10)]) [2, 3, 1, 0] rfl ?_
          exact ih_8 x8 x10 h hf
        · refine e_if_gt (pc := 28) (tgt := 33) C dX12_middleOf_28 (by decide) (fun q => absurd q c9) (fun _ => ?_)
          refine e_iload_n (pc := 31) C dX12_middleOf_31 3 rfl rfl ?_
          obtain rfl := so_e hf
          exact e_iret (pc := 32) C hr dX12_middleOf_32 (Nat.le_of_ble_eq_true rfl) (Nat.le_of_ble_eq_true rfl)
set_option maxHeartbeats 4000000 in
set_option maxRecDepth 100000 in
theorem ct_X12_middleOf {G : GG} {l : Launch} {v0 : Nat} {v1 : Int32} {h : AH} {y : Int32 × AH} (hf : f_X12_middleOf G v0 v1 h = some y) : Ct G l yX12_middleOf cX12_middleOf 4 (some .int) 0 0 0 0 [.ref v0, .int v1] h (some (.int y.1), y.2) := by
  refine ct_of (by decide) (Nat.le_of_ble_eq_true rfl) ?_
  intro p e s m args below meth c C hm hr hin
  have C : Cx G cX12_middleOf RX12 p s m args meth c := C
  refine e_lv (lv2 := [(0, .ref v0), (1, .int v1)]) [0, 1] rfl ?_
  unfold f_X12_middleOf at hf
  refine e_iload_n (pc := 0) C dX12_middleOf_0 1 rfl rfl ?_
  refine e_iconst (v := (1 : Int32)) (pc := 1) C dX12_middleOf_1 (by decide) ?_
  refine e_iadd (pc := 2) C dX12_middleOf_2 ?_
  refine e_iconst (v := (2 : Int32)) (pc := 3) C dX12_middleOf_3 (by decide) ?_
  refine e_idiv (pc := 4) C dX12_middleOf_4 (by decide) ?_
  obtain ⟨x1, ex1, hf⟩ := nn_e hf
  refine e_topi ex1 ?_
  refine e_istore_n (pc := 5) (lv2 := [(2, .int x1), (0, .ref v0), (1, .int v1)]) C hm dX12_middleOf_5 rfl (by decide) rfl ?_
  refine e_iconst (v := (0 : Int32)) (pc := 6) C dX12_middleOf_6 (by decide) ?_
  refine e_istore_n (pc := 7) (lv2 := [(3, .int (0 : Int32)), (2, .int x1), (0, .ref v0), (1, .int v1)]) C hm dX12_middleOf_7 rfl (by decide) rfl ?_
  refine e_lv (lv2 := [(0, .ref v0), (1, .int v1), (2, .int x1), (3, .int (0 : Int32))]) [2, 3, 1, 0] rfl ?_
  refine el_X12_middleOf_8 C hm hr hin (fun h_39 hf => ?_) bN x1 (0 : Int32) h hf
  refine e_aload_n (pc := 39) C dX12_middleOf_39 0 rfl rfl ?_
  obtain ⟨t11, hf⟩ := ck_e hf
  refine e_getr (pc := 40) 12 1 C dX12_middleOf_40 (by decide) (by decide) g1402 rfl t11 ?_
  obtain ⟨b12, eb12, hf⟩ := ob_e hf
  refine e_rf eb12 ?_
  refine e_bipush (v := (13 : Int32)) (pc := 43) C dX12_middleOf_43 (by decide) ?_
  obtain ⟨q13, hf⟩ := ck_e hf
  obtain ⟨n14, tn14, in14⟩ := ix_e q13
  refine e_iald (pc := 45) C dX12_middleOf_45 tn14 in14 ?_
  obtain rfl := so_e hf
  exact e_iret (pc := 46) C hr dX12_middleOf_46 (Nat.le_of_ble_eq_true rfl) (Nat.le_of_ble_eq_true rfl)
theorem dX12_mostWanted_0 : decode cX12_mostWanted 0 = .ok (.iconst 0, 1) := by decide +kernel
theorem dX12_mostWanted_1 : decode cX12_mostWanted 1 = .ok (.istore_n 2, 1) := by decide +kernel
theorem dX12_mostWanted_2 : decode cX12_mostWanted 2 = .ok (.iconst 1, 1) := by decide +kernel
theorem dX12_mostWanted_3 : decode cX12_mostWanted 3 = .ok (.istore_n 3, 1) := by decide +kernel
theorem dX12_mostWanted_4 : decode cX12_mostWanted 4 = .ok (.iload_n 3, 1) := by decide +kernel
theorem dX12_mostWanted_5 : decode cX12_mostWanted 5 = .ok (.bipush 6, 2) := by decide +kernel
theorem dX12_mostWanted_7 : decode cX12_mostWanted 7 = .ok (.if_icmp .ge 30, 3) := by decide +kernel
theorem dX12_mostWanted_10 : decode cX12_mostWanted 10 = .ok (.aload_n 0, 1) := by decide +kernel
theorem dX12_mostWanted_11 : decode cX12_mostWanted 11 = .ok (.getfield 139, 3) := by decide +kernel
theorem dX12_mostWanted_14 : decode cX12_mostWanted 14 = .ok (.iload_n 3, 1) := by decide +kernel
theorem dX12_mostWanted_15 : decode cX12_mostWanted 15 = .ok (.iaload, 1) := by decide +kernel
theorem dX12_mostWanted_16 : decode cX12_mostWanted 16 = .ok (.aload_n 0, 1) := by decide +kernel
theorem dX12_mostWanted_17 : decode cX12_mostWanted 17 = .ok (.getfield 139, 3) := by decide +kernel
theorem dX12_mostWanted_20 : decode cX12_mostWanted 20 = .ok (.iload_n 2, 1) := by decide +kernel
theorem dX12_mostWanted_21 : decode cX12_mostWanted 21 = .ok (.iaload, 1) := by decide +kernel
theorem dX12_mostWanted_22 : decode cX12_mostWanted 22 = .ok (.if_icmp .le 7, 3) := by decide +kernel
theorem dX12_mostWanted_25 : decode cX12_mostWanted 25 = .ok (.iload_n 3, 1) := by decide +kernel
theorem dX12_mostWanted_26 : decode cX12_mostWanted 26 = .ok (.goto 4, 3) := by decide +kernel
theorem dX12_mostWanted_29 : decode cX12_mostWanted 29 = .ok (.iload_n 2, 1) := by decide +kernel
theorem dX12_mostWanted_30 : decode cX12_mostWanted 30 = .ok (.istore_n 2, 1) := by decide +kernel
theorem dX12_mostWanted_31 : decode cX12_mostWanted 31 = .ok (.iinc 3 1, 3) := by decide +kernel
theorem dX12_mostWanted_34 : decode cX12_mostWanted 34 = .ok (.goto (-30), 3) := by decide +kernel
theorem dX12_mostWanted_37 : decode cX12_mostWanted 37 = .ok (.iload_n 1, 1) := by decide +kernel
theorem dX12_mostWanted_38 : decode cX12_mostWanted 38 = .ok (.ifCond .ne 13, 3) := by decide +kernel
theorem dX12_mostWanted_41 : decode cX12_mostWanted 41 = .ok (.aload_n 0, 1) := by decide +kernel
theorem dX12_mostWanted_42 : decode cX12_mostWanted 42 = .ok (.getfield 9, 3) := by decide +kernel
theorem dX12_mostWanted_45 : decode cX12_mostWanted 45 = .ok (.bipush 13, 2) := by decide +kernel
theorem dX12_mostWanted_47 : decode cX12_mostWanted 47 = .ok (.iaload, 1) := by decide +kernel
theorem dX12_mostWanted_48 : decode cX12_mostWanted 48 = .ok (.goto 4, 3) := by decide +kernel
theorem dX12_mostWanted_51 : decode cX12_mostWanted 51 = .ok (.iload_n 2, 1) := by decide +kernel
theorem dX12_mostWanted_52 : decode cX12_mostWanted 52 = .ok (.ireturn, 1) := by decide +kernel
def F_X12_mostWanted_4 (G : GG) (v0 : Nat) (v1 : Int32) (K_37 : Int32 → AH → Option (Int32 × AH)) (self_4 : Int32 → Int32 → AH → Option (Int32 × AH)) (v2 : Int32) (v3 : Int32) (h : AH) : Option (Int32 × AH) :=
if (6 : Int32) ≤ v3 then (K_37 v2 h) else
ck (m_t h v0 = .inl 12) <|
ob (m_r h v0 52) fun b3 =>
ck (ixb h b3 .int v3 = true) <|
ob (m_r h v0 52) fun b6 =>
ck (ixb h b6 .int v2 = true) <|
nn (fun (s0_30 : Int32) => (nn (v3 + (1 : Int32)) fun x9 =>
self_4 s0_30 x9 h)) fun j_30 =>
if (m_i h b3 v3.toNatClampNeg) ≤ (m_i h b6 v2.toNatClampNeg) then (j_30 v2) else
j_30 v3
def f_X12_mostWanted (G : GG) (v0 : Nat) (v1 : Int32) (h : AH) : Option (Int32 × AH) :=
lq2 (F_X12_mostWanted_4 G v0 v1 (fun (v2_37 : Int32) (h_37 : AH) => (if v1 = 0 then (ck (m_t h_37 v0 = .inl 12) <|
ob (m_r h_37 v0 1) fun b13 =>
ck (ixb h_37 b13 .int (13 : Int32) = true) <|
some (m_i h_37 b13 (13 : Int32).toNatClampNeg, h_37)) else
some (v2_37, h_37)))) bN (0 : Int32) (1 : Int32) h
set_option maxHeartbeats 4000000 in
set_option maxRecDepth 100000 in
theorem el_X12_mostWanted_4 {G : GG} {p : Program} {l : Launch} {e : Env} {s : State} {m : MethodId} {args : Array Value} {below : List Frame} {meth : Method} {c : Code} {y : Int32 × AH} (C : Cx G cX12_mostWanted RX12 p s m args meth c) (hm : c.maxLocals = 4) (hr : meth.sig.returnType = (some .int)) (hin : meth.name = yX12_mostWanted.name) {v0 : Nat} {v1 : Int32} {K_37 : Int32 → AH → Option (Int32 × AH)} (hK_37 : ∀ (w2 : Int32) (h : AH), K_37 w2 h = some y → EE G p l e ({ frames := 0, cells := 0, slots := 0, locals := 0 } : Room) s m args below meth c (some (.int y.1), y.2) 0 0 37 [(0, .ref v0), (1, .int v1), (2, .int w2)] [] h 0 0) :
    ∀ (n : Nat) (v2 : Int32) (v3 : Int32) (h : AH), lq2 (F_X12_mostWanted_4 G v0 v1 K_37) n v2 v3 h = some y → EE G p l e ({ frames := 0, cells := 0, slots := 0, locals := 0 } : Room) s m args below meth c (some (.int y.1), y.2) 0 0 4 [(0, .ref v0), (1, .int v1), (2, .int v2), (3, .int v3)] [] h 0 0 := by
  intro n
  induction n with
  | zero => intro v2 v3 h hf; exact (no_e hf).elim
  | succ n ih_4 =>
    intro v2 v3 h hf
    have hf : F_X12_mostWanted_4 G v0 v1 K_37 (lq2 (F_X12_mostWanted_4 G v0 v1 K_37) n) v2 v3 h = some y := hf
    generalize lq2 (F_X12_mostWanted_4 G v0 v1 K_37) n = self_4 at hf ih_4
    unfold F_X12_mostWanted_4 at hf
    refine e_iload_n (pc := 4) C dX12_mostWanted_4 3 rfl rfl ?_
    refine e_bipush (v := (6 : Int32)) (pc := 5) C dX12_mostWanted_5 (by decide) ?_
    rcases it_e hf with ⟨c1, hf⟩ | ⟨c1, hf⟩
    · refine e_icmp_ge (pc := 7) (tgt := 37) C dX12_mostWanted_7 (by decide) (fun _ => ?_) (fun q => absurd c1 q)
      refine e_lv (lv2 := [(0, .ref v0), (1, .int v1), (2, .int v2)]) [0, 1, 2] rfl ?_
      exact hK_37 v2 h hf
    · refine e_icmp_ge (pc := 7) (tgt := 37) C dX12_mostWanted_7 (by decide) (fun q => absurd q c1) (fun _ => ?_)
      refine e_aload_n (pc := 10) C dX12_mostWanted_10 0 rfl rfl ?_
      obtain ⟨t2, hf⟩ := ck_e hf
      refine e_getr (pc := 11) 12 52 C dX12_mostWanted_11 (by decide) (by decide) g1453 rfl t2 ?_
      obtain ⟨b3, eb3, hf⟩ := ob_e hf
      refine e_rf eb3 ?_
      refine e_iload_n (pc := 14) C dX12_mostWanted_14 3 rfl rfl ?_
      obtain ⟨q4, hf⟩ := ck_e hf
      obtain ⟨n5, tn5, in5⟩ := ix_e q4
      refine e_iald (pc := 15) C dX12_mostWanted_15 tn5 in5 ?_
      refine e_aload_n (pc := 16) C dX12_mostWanted_16 0 rfl rfl ?_
      refine e_getr (pc := 17) 12 52 C dX12_mostWanted_17 (by decide) (by decide) g1453 rfl t2 ?_
      obtain ⟨b6, eb6, hf⟩ := ob_e hf
      refine e_rf eb6 ?_
      refine e_iload_n (pc := 20) C dX12_mostWanted_20 2 rfl rfl ?_
      obtain ⟨q7, hf⟩ := ck_e hf
      obtain ⟨n8, tn8, in8⟩ := ix_e q7
      refine e_iald (pc := 21) C dX12_mostWanted_21 tn8 in8 ?_
      obtain ⟨j_30, ej_30, hf⟩ := nn_e hf
      have W_30 : ∀ (s0_30 : Int32), j_30 s0_30 = some y → EE G p l e ({ frames := 0, cells := 0, slots := 0, locals := 0 } : Room) s m args below meth c (some (.int y.1), y.2) 0 0 30 [(0, .ref v0), (1, .int v1), (3, .int v3)] [.int s0_30] h 0 0 := by
        intro s0_30 hf
        rw [ej_30] at hf
        refine e_istore_n (pc := 30) (lv2 := [(2, .int s0_30), (0, .ref v0), (1, .int v1), (3, .int v3)]) C hm dX12_mostWanted_30 rfl (by decide) rfl ?_
        obtain ⟨x9, ex9, hf⟩ := nn_e hf
        refine e_iinc (pc := 31) (v := x9) (lv2 := [(3, .int x9), (2, .int s0_30), (0, .ref v0), (1, .int v1)]) C hm dX12_mostWanted_31 3 rfl (by rw [ex9]; rfl) (by decide) rfl ?_
        refine e_goto (pc := 34) (tgt := 4) C dX12_mostWanted_34 (by decide) ?_
        refine e_lv (lv2 := [(0, .ref v0), (1, .int v1), (2, .int s0_30), (3, .int x9)]) [2, 3, 1, 0] rfl ?_
        exact ih_4 s0_30 x9 h hf
      rcases it_e hf with ⟨c10, hf⟩ | ⟨c10, hf⟩
      · refine e_icmp_le (pc := 22) (tgt := 29) C dX12_mostWanted_22 (by decide) (fun _ => ?_) (fun q => absurd c10 q)
        refine e_iload_n (pc := 29) C dX12_mostWanted_29 2 rfl rfl ?_
        refine e_lv (lv2 := [(0, .ref v0), (1, .int v1), (3, .int v3)]) [0, 1, 3] rfl ?_
        exact W_30 v2 hf
      · refine e_icmp_le (pc := 22) (tgt := 29) C dX12_mostWanted_22 (by decide) (fun q => absurd q c10) (fun _ => ?_)
        refine e_iload_n (pc := 25) C dX12_mostWanted_25 3 rfl rfl ?_
        refine e_goto (pc := 26) (tgt := 30) C dX12_mostWanted_26 (by decide) ?_
        refine e_lv (lv2 := [(0, .ref v0), (1, .int v1), (3, .int v3)]) [0, 1, 3] rfl ?_
        exact W_30 v3 hf
set_option maxHeartbeats 4000000 in
set_option maxRecDepth 100000 in
theorem ct_X12_mostWanted {G : GG} {l : Launch} {v0 : Nat} {v1 : Int32} {h : AH} {y : Int32 × AH} (hf : f_X12_mostWanted G v0 v1 h = some y) : Ct G l yX12_mostWanted cX12_mostWanted 4 (some .int) 0 0 0 0 [.ref v0, .int v1] h (some (.int y.1), y.2) := by
  refine ct_of (by decide) (Nat.le_of_ble_eq_true rfl) ?_
  intro p e s m args below meth c C hm hr hin
  have C : Cx G cX12_mostWanted RX12 p s m args meth c := C
  refine e_lv (lv2 := [(0, .ref v0), (1, .int v1)]) [0, 1] rfl ?_
  unfold f_X12_mostWanted at hf
  refine e_iconst (v := (0 : Int32)) (pc := 0) C dX12_mostWanted_0 (by decide) ?_
  refine e_istore_n (pc := 1) (lv2 := [(2, .int (0 : Int32)), (0, .ref v0), (1, .int v1)]) C hm dX12_mostWanted_1 rfl (by decide) rfl ?_
  refine e_iconst (v := (1 : Int32)) (pc := 2) C dX12_mostWanted_2 (by decide) ?_
  refine e_istore_n (pc := 3) (lv2 := [(3, .int (1 : Int32)), (2, .int (0 : Int32)), (0, .ref v0), (1, .int v1)]) C hm dX12_mostWanted_3 rfl (by decide) rfl ?_
  refine e_lv (lv2 := [(0, .ref v0), (1, .int v1), (2, .int (0 : Int32)), (3, .int (1 : Int32))]) [2, 3, 1, 0] rfl ?_
  refine el_X12_mostWanted_4 C hm hr hin (fun v2_37 h_37 hf => ?_) bN (0 : Int32) (1 : Int32) h hf
  refine e_iload_n (pc := 37) C dX12_mostWanted_37 1 rfl rfl ?_
  rcases it_e hf with ⟨c11, hf⟩ | ⟨c11, hf⟩
  · refine e_if_ne (pc := 38) (tgt := 51) C dX12_mostWanted_38 (by decide) (fun q => absurd c11 q) (fun _ => ?_)
    refine e_aload_n (pc := 41) C dX12_mostWanted_41 0 rfl rfl ?_
    obtain ⟨t12, hf⟩ := ck_e hf
    refine e_getr (pc := 42) 12 1 C dX12_mostWanted_42 (by decide) (by decide) g1402 rfl t12 ?_
    obtain ⟨b13, eb13, hf⟩ := ob_e hf
    refine e_rf eb13 ?_
    refine e_bipush (v := (13 : Int32)) (pc := 45) C dX12_mostWanted_45 (by decide) ?_
    obtain ⟨q14, hf⟩ := ck_e hf
    obtain ⟨n15, tn15, in15⟩ := ix_e q14
    refine e_iald (pc := 47) C dX12_mostWanted_47 tn15 in15 ?_
    refine e_goto (pc := 48) (tgt := 52) C dX12_mostWanted_48 (by decide) ?_
    obtain rfl := so_e hf
    exact e_iret (pc := 52) C hr dX12_mostWanted_52 (Nat.le_of_ble_eq_true rfl) (Nat.le_of_ble_eq_true rfl)
  · refine e_if_ne (pc := 38) (tgt := 51) C dX12_mostWanted_38 (by decide) (fun _ => ?_) (fun q => absurd q c11)
    refine e_iload_n (pc := 51) C dX12_mostWanted_51 2 rfl rfl ?_
    obtain rfl := so_e hf
    exact e_iret (pc := 52) C hr dX12_mostWanted_52 (Nat.le_of_ble_eq_true rfl) (Nat.le_of_ble_eq_true rfl)
theorem dX12_asks_0 : decode cX12_asks 0 = .ok (.iconst 0, 1) := by decide +kernel
theorem dX12_asks_1 : decode cX12_asks 1 = .ok (.istore_n 1, 1) := by decide +kernel
theorem dX12_asks_2 : decode cX12_asks 2 = .ok (.iconst 0, 1) := by decide +kernel
theorem dX12_asks_3 : decode cX12_asks 3 = .ok (.istore_n 2, 1) := by decide +kernel
theorem dX12_asks_4 : decode cX12_asks 4 = .ok (.iconst 0, 1) := by decide +kernel
theorem dX12_asks_5 : decode cX12_asks 5 = .ok (.istore_n 3, 1) := by decide +kernel
theorem dX12_asks_6 : decode cX12_asks 6 = .ok (.iconst 0, 1) := by decide +kernel
theorem dX12_asks_7 : decode cX12_asks 7 = .ok (.istore 4, 2) := by decide +kernel
theorem dX12_asks_9 : decode cX12_asks 9 = .ok (.iconst 0, 1) := by decide +kernel
theorem dX12_asks_10 : decode cX12_asks 10 = .ok (.istore 5, 2) := by decide +kernel
theorem dX12_asks_12 : decode cX12_asks 12 = .ok (.iload 5, 2) := by decide +kernel
theorem dX12_asks_14 : decode cX12_asks 14 = .ok (.bipush 6, 2) := by decide +kernel
theorem dX12_asks_16 : decode cX12_asks 16 = .ok (.if_icmp .ge 17, 3) := by decide +kernel
theorem dX12_asks_19 : decode cX12_asks 19 = .ok (.aload_n 0, 1) := by decide +kernel
theorem dX12_asks_20 : decode cX12_asks 20 = .ok (.getfield 139, 3) := by decide +kernel
theorem dX12_asks_23 : decode cX12_asks 23 = .ok (.iload 5, 2) := by decide +kernel
theorem dX12_asks_25 : decode cX12_asks 25 = .ok (.iconst 0, 1) := by decide +kernel
theorem dX12_asks_26 : decode cX12_asks 26 = .ok (.iastore, 1) := by decide +kernel
theorem dX12_asks_27 : decode cX12_asks 27 = .ok (.iinc 5 1, 3) := by decide +kernel
theorem dX12_asks_30 : decode cX12_asks 30 = .ok (.goto (-18), 3) := by decide +kernel
theorem dX12_asks_33 : decode cX12_asks 33 = .ok (.iconst 0, 1) := by decide +kernel
theorem dX12_asks_34 : decode cX12_asks 34 = .ok (.istore 5, 2) := by decide +kernel
theorem dX12_asks_36 : decode cX12_asks 36 = .ok (.iload 5, 2) := by decide +kernel
theorem dX12_asks_38 : decode cX12_asks 38 = .ok (.aload_n 0, 1) := by decide +kernel
theorem dX12_asks_39 : decode cX12_asks 39 = .ok (.getfield 9, 3) := by decide +kernel
theorem dX12_asks_42 : decode cX12_asks 42 = .ok (.bipush 6, 2) := by decide +kernel
theorem dX12_asks_44 : decode cX12_asks 44 = .ok (.iaload, 1) := by decide +kernel
theorem dX12_asks_45 : decode cX12_asks 45 = .ok (.if_icmp .ge 106, 3) := by decide +kernel
theorem dX12_asks_48 : decode cX12_asks 48 = .ok (.aload_n 0, 1) := by decide +kernel
theorem dX12_asks_49 : decode cX12_asks 49 = .ok (.iload 5, 2) := by decide +kernel
theorem dX12_asks_51 : decode cX12_asks 51 = .ok (.invokevirtual 449, 3) := by decide +kernel
theorem dX12_asks_54 : decode cX12_asks 54 = .ok (.ifCond .eq 91, 3) := by decide +kernel
theorem dX12_asks_57 : decode cX12_asks 57 = .ok (.aload_n 0, 1) := by decide +kernel
theorem dX12_asks_58 : decode cX12_asks 58 = .ok (.iload 5, 2) := by decide +kernel
theorem dX12_asks_60 : decode cX12_asks 60 = .ok (.invokevirtual 455, 3) := by decide +kernel
theorem dX12_asks_63 : decode cX12_asks 63 = .ok (.istore 6, 2) := by decide +kernel
theorem dX12_asks_65 : decode cX12_asks 65 = .ok (.iinc 1 1, 3) := by decide +kernel
theorem dX12_asks_68 : decode cX12_asks 68 = .ok (.aload_n 0, 1) := by decide +kernel
theorem dX12_asks_69 : decode cX12_asks 69 = .ok (.getfield 139, 3) := by decide +kernel
theorem dX12_asks_72 : decode cX12_asks 72 = .ok (.iload 6, 2) := by decide +kernel
theorem dX12_asks_74 : decode cX12_asks 74 = .ok (.dup2, 1) := by decide +kernel
theorem dX12_asks_75 : decode cX12_asks 75 = .ok (.iaload, 1) := by decide +kernel
theorem dX12_asks_76 : decode cX12_asks 76 = .ok (.iconst 1, 1) := by decide +kernel
theorem dX12_asks_77 : decode cX12_asks 77 = .ok (.iadd, 1) := by decide +kernel
theorem dX12_asks_78 : decode cX12_asks 78 = .ok (.iastore, 1) := by decide +kernel
theorem dX12_asks_79 : decode cX12_asks 79 = .ok (.iload_n 2, 1) := by decide +kernel
theorem dX12_asks_80 : decode cX12_asks 80 = .ok (.iload 6, 2) := by decide +kernel
theorem dX12_asks_82 : decode cX12_asks 82 = .ok (.aload_n 0, 1) := by decide +kernel
theorem dX12_asks_83 : decode cX12_asks 83 = .ok (.getfield 9, 3) := by decide +kernel
theorem dX12_asks_86 : decode cX12_asks 86 = .ok (.bipush 13, 2) := by decide +kernel
theorem dX12_asks_88 : decode cX12_asks 88 = .ok (.iaload, 1) := by decide +kernel
theorem dX12_asks_89 : decode cX12_asks 89 = .ok (.if_icmp .le 7, 3) := by decide +kernel
theorem dX12_asks_92 : decode cX12_asks 92 = .ok (.iconst 1, 1) := by decide +kernel
theorem dX12_asks_93 : decode cX12_asks 93 = .ok (.goto 4, 3) := by decide +kernel
theorem dX12_asks_96 : decode cX12_asks 96 = .ok (.iconst 0, 1) := by decide +kernel
theorem dX12_asks_97 : decode cX12_asks 97 = .ok (.iadd, 1) := by decide +kernel
theorem dX12_asks_98 : decode cX12_asks 98 = .ok (.istore_n 2, 1) := by decide +kernel
theorem dX12_asks_99 : decode cX12_asks 99 = .ok (.iload_n 3, 1) := by decide +kernel
theorem dX12_asks_100 : decode cX12_asks 100 = .ok (.iload 6, 2) := by decide +kernel
theorem dX12_asks_102 : decode cX12_asks 102 = .ok (.aload_n 0, 1) := by decide +kernel
theorem dX12_asks_103 : decode cX12_asks 103 = .ok (.getfield 9, 3) := by decide +kernel
theorem dX12_asks_106 : decode cX12_asks 106 = .ok (.bipush 13, 2) := by decide +kernel
theorem dX12_asks_108 : decode cX12_asks 108 = .ok (.iaload, 1) := by decide +kernel
theorem dX12_asks_109 : decode cX12_asks 109 = .ok (.if_icmp .ge 7, 3) := by decide +kernel
theorem dX12_asks_112 : decode cX12_asks 112 = .ok (.iconst 1, 1) := by decide +kernel
theorem dX12_asks_113 : decode cX12_asks 113 = .ok (.goto 4, 3) := by decide +kernel
theorem dX12_asks_116 : decode cX12_asks 116 = .ok (.iconst 0, 1) := by decide +kernel
theorem dX12_asks_117 : decode cX12_asks 117 = .ok (.iadd, 1) := by decide +kernel
theorem dX12_asks_118 : decode cX12_asks 118 = .ok (.istore_n 3, 1) := by decide +kernel
theorem dX12_asks_119 : decode cX12_asks 119 = .ok (.aload_n 0, 1) := by decide +kernel
theorem dX12_asks_120 : decode cX12_asks 120 = .ok (.getfield 40, 3) := by decide +kernel
theorem dX12_asks_123 : decode cX12_asks 123 = .ok (.iload 5, 2) := by decide +kernel
theorem dX12_asks_125 : decode cX12_asks 125 = .ok (.iaload, 1) := by decide +kernel
theorem dX12_asks_126 : decode cX12_asks 126 = .ok (.iload 4, 2) := by decide +kernel
theorem dX12_asks_128 : decode cX12_asks 128 = .ok (.if_icmp .le 13, 3) := by decide +kernel
theorem dX12_asks_131 : decode cX12_asks 131 = .ok (.aload_n 0, 1) := by decide +kernel
theorem dX12_asks_132 : decode cX12_asks 132 = .ok (.getfield 40, 3) := by decide +kernel
theorem dX12_asks_135 : decode cX12_asks 135 = .ok (.iload 5, 2) := by decide +kernel
theorem dX12_asks_137 : decode cX12_asks 137 = .ok (.iaload, 1) := by decide +kernel
theorem dX12_asks_138 : decode cX12_asks 138 = .ok (.goto 5, 3) := by decide +kernel
theorem dX12_asks_141 : decode cX12_asks 141 = .ok (.iload 4, 2) := by decide +kernel
theorem dX12_asks_143 : decode cX12_asks 143 = .ok (.istore 4, 2) := by decide +kernel
theorem dX12_asks_145 : decode cX12_asks 145 = .ok (.iinc 5 1, 3) := by decide +kernel
theorem dX12_asks_148 : decode cX12_asks 148 = .ok (.goto (-112), 3) := by decide +kernel
theorem dX12_asks_151 : decode cX12_asks 151 = .ok (.aload_n 0, 1) := by decide +kernel
theorem dX12_asks_152 : decode cX12_asks 152 = .ok (.iconst 0, 1) := by decide +kernel
theorem dX12_asks_153 : decode cX12_asks 153 = .ok (.invokevirtual 471, 3) := by decide +kernel
theorem dX12_asks_156 : decode cX12_asks 156 = .ok (.istore 5, 2) := by decide +kernel
theorem dX12_asks_158 : decode cX12_asks 158 = .ok (.aload_n 0, 1) := by decide +kernel
theorem dX12_asks_159 : decode cX12_asks 159 = .ok (.getfield 132, 3) := by decide +kernel
theorem dX12_asks_162 : decode cX12_asks 162 = .ok (.iconst 0, 1) := by decide +kernel
theorem dX12_asks_163 : decode cX12_asks 163 = .ok (.aload_n 0, 1) := by decide +kernel
theorem dX12_asks_164 : decode cX12_asks 164 = .ok (.getfield 9, 3) := by decide +kernel
theorem dX12_asks_167 : decode cX12_asks 167 = .ok (.bipush 13, 2) := by decide +kernel
theorem dX12_asks_169 : decode cX12_asks 169 = .ok (.iaload, 1) := by decide +kernel
theorem dX12_asks_170 : decode cX12_asks 170 = .ok (.i2l, 1) := by decide +kernel
theorem dX12_asks_171 : decode cX12_asks 171 = .ok (.lastore, 1) := by decide +kernel
theorem dX12_asks_172 : decode cX12_asks 172 = .ok (.aload_n 0, 1) := by decide +kernel
theorem dX12_asks_173 : decode cX12_asks 173 = .ok (.getfield 132, 3) := by decide +kernel
theorem dX12_asks_176 : decode cX12_asks 176 = .ok (.iconst 1, 1) := by decide +kernel
theorem dX12_asks_177 : decode cX12_asks 177 = .ok (.aload_n 0, 1) := by decide +kernel
theorem dX12_asks_178 : decode cX12_asks 178 = .ok (.getfield 9, 3) := by decide +kernel
theorem dX12_asks_181 : decode cX12_asks 181 = .ok (.bipush 11, 2) := by decide +kernel
theorem dX12_asks_183 : decode cX12_asks 183 = .ok (.iaload, 1) := by decide +kernel
theorem dX12_asks_184 : decode cX12_asks 184 = .ok (.i2l, 1) := by decide +kernel
theorem dX12_asks_185 : decode cX12_asks 185 = .ok (.lastore, 1) := by decide +kernel
theorem dX12_asks_186 : decode cX12_asks 186 = .ok (.aload_n 0, 1) := by decide +kernel
theorem dX12_asks_187 : decode cX12_asks 187 = .ok (.getfield 132, 3) := by decide +kernel
theorem dX12_asks_190 : decode cX12_asks 190 = .ok (.iconst 2, 1) := by decide +kernel
theorem dX12_asks_191 : decode cX12_asks 191 = .ok (.aload_n 0, 1) := by decide +kernel
theorem dX12_asks_192 : decode cX12_asks 192 = .ok (.getfield 9, 3) := by decide +kernel
theorem dX12_asks_195 : decode cX12_asks 195 = .ok (.bipush 10, 2) := by decide +kernel
theorem dX12_asks_197 : decode cX12_asks 197 = .ok (.iaload, 1) := by decide +kernel
theorem dX12_asks_198 : decode cX12_asks 198 = .ok (.i2l, 1) := by decide +kernel
theorem dX12_asks_199 : decode cX12_asks 199 = .ok (.lastore, 1) := by decide +kernel
theorem dX12_asks_200 : decode cX12_asks 200 = .ok (.aload_n 0, 1) := by decide +kernel
theorem dX12_asks_201 : decode cX12_asks 201 = .ok (.getfield 132, 3) := by decide +kernel
theorem dX12_asks_204 : decode cX12_asks 204 = .ok (.iconst 3, 1) := by decide +kernel
theorem dX12_asks_205 : decode cX12_asks 205 = .ok (.aload_n 0, 1) := by decide +kernel
theorem dX12_asks_206 : decode cX12_asks 206 = .ok (.aload_n 0, 1) := by decide +kernel
theorem dX12_asks_207 : decode cX12_asks 207 = .ok (.getfield 9, 3) := by decide +kernel
theorem dX12_asks_210 : decode cX12_asks 210 = .ok (.bipush 10, 2) := by decide +kernel
theorem dX12_asks_212 : decode cX12_asks 212 = .ok (.iaload, 1) := by decide +kernel
theorem dX12_asks_213 : decode cX12_asks 213 = .ok (.invokevirtual 441, 3) := by decide +kernel
theorem dX12_asks_216 : decode cX12_asks 216 = .ok (.ifCond .eq 7, 3) := by decide +kernel
theorem dX12_asks_219 : decode cX12_asks 219 = .ok (.lconst 1, 1) := by decide +kernel
theorem dX12_asks_220 : decode cX12_asks 220 = .ok (.goto 4, 3) := by decide +kernel
theorem dX12_asks_223 : decode cX12_asks 223 = .ok (.lconst 0, 1) := by decide +kernel
theorem dX12_asks_224 : decode cX12_asks 224 = .ok (.lastore, 1) := by decide +kernel
theorem dX12_asks_225 : decode cX12_asks 225 = .ok (.aload_n 0, 1) := by decide +kernel
theorem dX12_asks_226 : decode cX12_asks 226 = .ok (.getfield 132, 3) := by decide +kernel
theorem dX12_asks_229 : decode cX12_asks 229 = .ok (.iconst 4, 1) := by decide +kernel
theorem dX12_asks_230 : decode cX12_asks 230 = .ok (.aload_n 0, 1) := by decide +kernel
theorem dX12_asks_231 : decode cX12_asks 231 = .ok (.invokevirtual 485, 3) := by decide +kernel
theorem dX12_asks_234 : decode cX12_asks 234 = .ok (.i2l, 1) := by decide +kernel
theorem dX12_asks_235 : decode cX12_asks 235 = .ok (.lastore, 1) := by decide +kernel
theorem dX12_asks_236 : decode cX12_asks 236 = .ok (.aload_n 0, 1) := by decide +kernel
theorem dX12_asks_237 : decode cX12_asks 237 = .ok (.getfield 132, 3) := by decide +kernel
theorem dX12_asks_240 : decode cX12_asks 240 = .ok (.iconst 5, 1) := by decide +kernel
theorem dX12_asks_241 : decode cX12_asks 241 = .ok (.iload 5, 2) := by decide +kernel
theorem dX12_asks_243 : decode cX12_asks 243 = .ok (.iconst (-1), 1) := by decide +kernel
theorem dX12_asks_244 : decode cX12_asks 244 = .ok (.if_icmp .ne 9, 3) := by decide +kernel
theorem dX12_asks_247 : decode cX12_asks 247 = .ok (.ldc2_w 412, 3) := by decide +kernel
theorem dX12_asks_250 : decode cX12_asks 250 = .ok (.goto 10, 3) := by decide +kernel
theorem dX12_asks_253 : decode cX12_asks 253 = .ok (.aload_n 0, 1) := by decide +kernel
theorem dX12_asks_254 : decode cX12_asks 254 = .ok (.iload 5, 2) := by decide +kernel
theorem dX12_asks_256 : decode cX12_asks 256 = .ok (.invokevirtual 455, 3) := by decide +kernel
theorem dX12_asks_259 : decode cX12_asks 259 = .ok (.i2l, 1) := by decide +kernel
theorem dX12_asks_260 : decode cX12_asks 260 = .ok (.lastore, 1) := by decide +kernel
theorem dX12_asks_261 : decode cX12_asks 261 = .ok (.aload_n 0, 1) := by decide +kernel
theorem dX12_asks_262 : decode cX12_asks 262 = .ok (.getfield 132, 3) := by decide +kernel
theorem dX12_asks_265 : decode cX12_asks 265 = .ok (.bipush 6, 2) := by decide +kernel
theorem dX12_asks_267 : decode cX12_asks 267 = .ok (.aload_n 0, 1) := by decide +kernel
theorem dX12_asks_268 : decode cX12_asks 268 = .ok (.iload_n 1, 1) := by decide +kernel
theorem dX12_asks_269 : decode cX12_asks 269 = .ok (.invokevirtual 488, 3) := by decide +kernel
theorem dX12_asks_272 : decode cX12_asks 272 = .ok (.i2l, 1) := by decide +kernel
theorem dX12_asks_273 : decode cX12_asks 273 = .ok (.lastore, 1) := by decide +kernel
theorem dX12_asks_274 : decode cX12_asks 274 = .ok (.aload_n 0, 1) := by decide +kernel
theorem dX12_asks_275 : decode cX12_asks 275 = .ok (.getfield 132, 3) := by decide +kernel
theorem dX12_asks_278 : decode cX12_asks 278 = .ok (.bipush 7, 2) := by decide +kernel
theorem dX12_asks_280 : decode cX12_asks 280 = .ok (.aload_n 0, 1) := by decide +kernel
theorem dX12_asks_281 : decode cX12_asks 281 = .ok (.iload_n 1, 1) := by decide +kernel
theorem dX12_asks_282 : decode cX12_asks 282 = .ok (.invokevirtual 491, 3) := by decide +kernel
theorem dX12_asks_285 : decode cX12_asks 285 = .ok (.i2l, 1) := by decide +kernel
theorem dX12_asks_286 : decode cX12_asks 286 = .ok (.lastore, 1) := by decide +kernel
theorem dX12_asks_287 : decode cX12_asks 287 = .ok (.aload_n 0, 1) := by decide +kernel
theorem dX12_asks_288 : decode cX12_asks 288 = .ok (.getfield 132, 3) := by decide +kernel
theorem dX12_asks_291 : decode cX12_asks 291 = .ok (.bipush 8, 2) := by decide +kernel
theorem dX12_asks_293 : decode cX12_asks 293 = .ok (.iload_n 2, 1) := by decide +kernel
theorem dX12_asks_294 : decode cX12_asks 294 = .ok (.i2l, 1) := by decide +kernel
theorem dX12_asks_295 : decode cX12_asks 295 = .ok (.lastore, 1) := by decide +kernel
theorem dX12_asks_296 : decode cX12_asks 296 = .ok (.aload_n 0, 1) := by decide +kernel
theorem dX12_asks_297 : decode cX12_asks 297 = .ok (.getfield 132, 3) := by decide +kernel
theorem dX12_asks_300 : decode cX12_asks 300 = .ok (.bipush 9, 2) := by decide +kernel
theorem dX12_asks_302 : decode cX12_asks 302 = .ok (.iload_n 3, 1) := by decide +kernel
theorem dX12_asks_303 : decode cX12_asks 303 = .ok (.i2l, 1) := by decide +kernel
theorem dX12_asks_304 : decode cX12_asks 304 = .ok (.lastore, 1) := by decide +kernel
theorem dX12_asks_305 : decode cX12_asks 305 = .ok (.aload_n 0, 1) := by decide +kernel
theorem dX12_asks_306 : decode cX12_asks 306 = .ok (.getfield 132, 3) := by decide +kernel
theorem dX12_asks_309 : decode cX12_asks 309 = .ok (.bipush 10, 2) := by decide +kernel
theorem dX12_asks_311 : decode cX12_asks 311 = .ok (.iload_n 1, 1) := by decide +kernel
theorem dX12_asks_312 : decode cX12_asks 312 = .ok (.i2l, 1) := by decide +kernel
theorem dX12_asks_313 : decode cX12_asks 313 = .ok (.lastore, 1) := by decide +kernel
theorem dX12_asks_314 : decode cX12_asks 314 = .ok (.aload_n 0, 1) := by decide +kernel
theorem dX12_asks_315 : decode cX12_asks 315 = .ok (.getfield 132, 3) := by decide +kernel
theorem dX12_asks_318 : decode cX12_asks 318 = .ok (.bipush 11, 2) := by decide +kernel
theorem dX12_asks_320 : decode cX12_asks 320 = .ok (.iload 4, 2) := by decide +kernel
theorem dX12_asks_322 : decode cX12_asks 322 = .ok (.i2l, 1) := by decide +kernel
theorem dX12_asks_323 : decode cX12_asks 323 = .ok (.lastore, 1) := by decide +kernel
theorem dX12_asks_324 : decode cX12_asks 324 = .ok (.aload_n 0, 1) := by decide +kernel
theorem dX12_asks_325 : decode cX12_asks 325 = .ok (.getfield 132, 3) := by decide +kernel
theorem dX12_asks_328 : decode cX12_asks 328 = .ok (.bipush 12, 2) := by decide +kernel
theorem dX12_asks_330 : decode cX12_asks 330 = .ok (.aload_n 0, 1) := by decide +kernel
theorem dX12_asks_331 : decode cX12_asks 331 = .ok (.getfield 9, 3) := by decide +kernel
theorem dX12_asks_334 : decode cX12_asks 334 = .ok (.bipush 12, 2) := by decide +kernel
theorem dX12_asks_336 : decode cX12_asks 336 = .ok (.iaload, 1) := by decide +kernel
theorem dX12_asks_337 : decode cX12_asks 337 = .ok (.i2l, 1) := by decide +kernel
theorem dX12_asks_338 : decode cX12_asks 338 = .ok (.lastore, 1) := by decide +kernel
theorem dX12_asks_339 : decode cX12_asks 339 = .ok (.return_, 1) := by decide +kernel
def F_X12_asks_12 (G : GG) (v0 : Nat) (v1 : Int32) (v2 : Int32) (v3 : Int32) (v4 : Int32) (K_33 : AH → Option (AH)) (self_12 : Int32 → AH → Option (AH)) (v5 : Int32) (h : AH) : Option (AH) :=
if (6 : Int32) ≤ v5 then (K_33 h) else
ck (m_t h v0 = .inl 12) <|
ob (m_r h v0 52) fun b3 =>
ck (ixb h b3 .int v5 = true) <|
nn (m_si h b3 v5.toNatClampNeg (0 : Int32)) fun h6 =>
nn (v5 + (1 : Int32)) fun x7 =>
self_12 x7 h6
def F_X12_asks_36 (G : GG) (v0 : Nat) (K_151 : Int32 → Int32 → Int32 → Int32 → AH → Option (AH)) (self_36 : Int32 → Int32 → Int32 → Int32 → Int32 → AH → Option (AH)) (v1 : Int32) (v2 : Int32) (v3 : Int32) (v4 : Int32) (v5 : Int32) (h : AH) : Option (AH) :=
ck (m_t h v0 = .inl 12) <|
ob (m_r h v0 1) fun b9 =>
ck (ixb h b9 .int (6 : Int32) = true) <|
if (m_i h b9 (6 : Int32).toNatClampNeg) ≤ v5 then (K_151 v1 v2 v3 v4 h) else
cb (f_X12_rides G v0 v5 h) fun r15 h13 =>
nn (fun (v1_145 : Int32) (v2_145 : Int32) (v3_145 : Int32) (v4_145 : Int32) (h_145 : AH) => (nn (v5 + (1 : Int32)) fun x16 =>
self_36 v1_145 v2_145 v3_145 v4_145 x16 h_145)) fun j_145 =>
if r15 = 0 then (j_145 v1 v2 v3 v4 h13) else
ck (m_t h13 v0 = .inl 12) <|
cb (f_X12_wantOf G v0 v5 h13) fun r21 h19 =>
nn (v1 + (1 : Int32)) fun x22 =>
ck (m_t h19 v0 = .inl 12) <|
ob (m_r h19 v0 52) fun b24 =>
ck (ixb h19 b24 .int r21 = true) <|
ck (ixb h19 b24 .int r21 = true) <|
nn (m_si h19 b24 r21.toNatClampNeg ((m_i h19 b24 r21.toNatClampNeg) + (1 : Int32))) fun h29 =>
ob (m_r h29 v0 1) fun b30 =>
ck (ixb h29 b30 .int (13 : Int32) = true) <|
nn (fun (s0_97 : Int32) => (nn (v2 + s0_97) fun x33 =>
ob (m_r h29 v0 1) fun b34 =>
ck (ixb h29 b34 .int (13 : Int32) = true) <|
nn (fun (s0_117 : Int32) => (nn (v3 + s0_117) fun x37 =>
ob (m_r h29 v0 11) fun b38 =>
ck (ixb h29 b38 .int v5 = true) <|
nn (fun (s0_143 : Int32) => (j_145 x22 x33 x37 s0_143 h29)) fun j_143 =>
if (m_i h29 b38 v5.toNatClampNeg) ≤ v4 then (j_143 v4) else
ob (m_r h29 v0 11) fun b42 =>
ck (ixb h29 b42 .int v5 = true) <|
j_143 (m_i h29 b42 v5.toNatClampNeg))) fun j_117 =>
if (m_i h29 b34 (13 : Int32).toNatClampNeg) ≤ r21 then (j_117 (0 : Int32)) else
j_117 (1 : Int32))) fun j_97 =>
if r21 ≤ (m_i h29 b30 (13 : Int32).toNatClampNeg) then (j_97 (0 : Int32)) else
j_97 (1 : Int32)
set_option maxRecDepth 100000 in
def f_X12_asks (G : GG) (v0 : Nat) (h : AH) : Option (AH) :=
lq1 (F_X12_asks_12 G v0 (0 : Int32) (0 : Int32) (0 : Int32) (0 : Int32) (fun (h_33 : AH) => (lq5 (F_X12_asks_36 G v0 (fun (v1_151 : Int32) (v2_151 : Int32) (v3_151 : Int32) (v4_151 : Int32) (h_151 : AH) => (ck (m_t h_151 v0 = .inl 12) <|
cb (f_X12_sitterOf G v0 (0 : Int32) h_151) fun r50 h48 =>
ck (m_t h48 v0 = .inl 12) <|
ob (m_r h48 v0 50) fun b52 =>
ob (m_r h48 v0 1) fun b53 =>
ck (ixb h48 b53 .int (13 : Int32) = true) <|
ck (ixb h48 b52 .long (0 : Int32) = true) <|
nn (m_sl h48 b52 (0 : Int32).toNatClampNeg ((m_i h48 b53 (13 : Int32).toNatClampNeg).toInt64)) fun h58 =>
ob (m_r h58 v0 50) fun b59 =>
ob (m_r h58 v0 1) fun b60 =>
ck (ixb h58 b60 .int (11 : Int32) = true) <|
ck (ixb h58 b59 .long (1 : Int32) = true) <|
nn (m_sl h58 b59 (1 : Int32).toNatClampNeg ((m_i h58 b60 (11 : Int32).toNatClampNeg).toInt64)) fun h65 =>
ob (m_r h65 v0 50) fun b66 =>
ob (m_r h65 v0 1) fun b67 =>
ck (ixb h65 b67 .int (10 : Int32) = true) <|
ck (ixb h65 b66 .long (2 : Int32) = true) <|
nn (m_sl h65 b66 (2 : Int32).toNatClampNeg ((m_i h65 b67 (10 : Int32).toNatClampNeg).toInt64)) fun h72 =>
ob (m_r h72 v0 50) fun b73 =>
ob (m_r h72 v0 1) fun b74 =>
ck (ixb h72 b74 .int (10 : Int32) = true) <|
cb (f_X12_isTunnel G v0 (m_i h72 b74 (10 : Int32).toNatClampNeg) h72) fun r79 h77 =>
nn (fun (s0_224 : Int64) => (ck (ixb h77 b73 .long (3 : Int32) = true) <|
nn (m_sl h77 b73 (3 : Int32).toNatClampNeg s0_224) fun h82 =>
ck (m_t h82 v0 = .inl 12) <|
ob (m_r h82 v0 50) fun b84 =>
cb (f_X12_nextTunnel G v0 h82) fun r87 h85 =>
ck (ixb h85 b84 .long (4 : Int32) = true) <|
nn (m_sl h85 b84 (4 : Int32).toNatClampNeg r87.toInt64) fun h90 =>
ck (m_t h90 v0 = .inl 12) <|
ob (m_r h90 v0 50) fun b92 =>
nn (fun (s0_260 : Int64) (h_260 : AH) => (ck (ixb h_260 b92 .long (5 : Int32) = true) <|
nn (m_sl h_260 b92 (5 : Int32).toNatClampNeg s0_260) fun h95 =>
ck (m_t h95 v0 = .inl 12) <|
ob (m_r h95 v0 50) fun b97 =>
cb (f_X12_middleOf G v0 v1_151 h95) fun r100 h98 =>
ck (ixb h98 b97 .long (6 : Int32) = true) <|
nn (m_sl h98 b97 (6 : Int32).toNatClampNeg r100.toInt64) fun h103 =>
ck (m_t h103 v0 = .inl 12) <|
ob (m_r h103 v0 50) fun b105 =>
cb (f_X12_mostWanted G v0 v1_151 h103) fun r108 h106 =>
ck (ixb h106 b105 .long (7 : Int32) = true) <|
nn (m_sl h106 b105 (7 : Int32).toNatClampNeg r108.toInt64) fun h111 =>
ck (m_t h111 v0 = .inl 12) <|
ob (m_r h111 v0 50) fun b113 =>
ck (ixb h111 b113 .long (8 : Int32) = true) <|
nn (m_sl h111 b113 (8 : Int32).toNatClampNeg v2_151.toInt64) fun h116 =>
ob (m_r h116 v0 50) fun b117 =>
ck (ixb h116 b117 .long (9 : Int32) = true) <|
nn (m_sl h116 b117 (9 : Int32).toNatClampNeg v3_151.toInt64) fun h120 =>
ob (m_r h120 v0 50) fun b121 =>
ck (ixb h120 b121 .long (10 : Int32) = true) <|
nn (m_sl h120 b121 (10 : Int32).toNatClampNeg v1_151.toInt64) fun h124 =>
ob (m_r h124 v0 50) fun b125 =>
ck (ixb h124 b125 .long (11 : Int32) = true) <|
nn (m_sl h124 b125 (11 : Int32).toNatClampNeg v4_151.toInt64) fun h128 =>
ob (m_r h128 v0 50) fun b129 =>
ob (m_r h128 v0 1) fun b130 =>
ck (ixb h128 b130 .int (12 : Int32) = true) <|
ck (ixb h128 b129 .long (12 : Int32) = true) <|
nn (m_sl h128 b129 (12 : Int32).toNatClampNeg ((m_i h128 b130 (12 : Int32).toNatClampNeg).toInt64)) fun h135 =>
some h135)) fun j_260 =>
if r50 = (-1 : Int32) then (j_260 (-1 : Int64) h90) else
cb (f_X12_wantOf G v0 r50 h90) fun r139 h137 =>
j_260 r139.toInt64 h137)) fun j_224 =>
if r79 = 0 then (j_224 (0 : Int64)) else
j_224 (1 : Int64)))) bN (0 : Int32) (0 : Int32) (0 : Int32) (0 : Int32) (0 : Int32) h_33))) bN (0 : Int32) h
set_option maxHeartbeats 4000000 in
set_option maxRecDepth 100000 in
theorem el_X12_asks_12 {G : GG} {p : Program} {l : Launch} {e : Env} {s : State} {m : MethodId} {args : Array Value} {below : List Frame} {meth : Method} {c : Code} {y : AH} (C : Cx G cX12_asks RX12 p s m args meth c) (hm : c.maxLocals = 7) (hr : meth.sig.returnType = none) (hin : meth.name = yX12_asks.name) {v0 : Nat} {v1 : Int32} {v2 : Int32} {v3 : Int32} {v4 : Int32} {K_33 : AH → Option (AH)} (hK_33 : ∀ (h : AH), K_33 h = some y → EE G p l e ({ frames := 2, cells := 0, slots := 0, locals := 46 } : Room) s m args below meth c (none, y) 0 0 33 [(0, .ref v0), (1, .int v1), (2, .int v2), (3, .int v3), (4, .int v4)] [] h 0 0) :
    ∀ (n : Nat) (v5 : Int32) (h : AH), lq1 (F_X12_asks_12 G v0 v1 v2 v3 v4 K_33) n v5 h = some y → EE G p l e ({ frames := 2, cells := 0, slots := 0, locals := 46 } : Room) s m args below meth c (none, y) 0 0 12 [(0, .ref v0), (1, .int v1), (2, .int v2), (3, .int v3), (4, .int v4), (5, .int v5)] [] h 0 0 := by
  intro n
  induction n with
  | zero => intro v5 h hf; exact (no_e hf).elim
  | succ n ih_12 =>
    intro v5 h hf
    have hf : F_X12_asks_12 G v0 v1 v2 v3 v4 K_33 (lq1 (F_X12_asks_12 G v0 v1 v2 v3 v4 K_33) n) v5 h = some y := hf
    generalize lq1 (F_X12_asks_12 G v0 v1 v2 v3 v4 K_33) n = self_12 at hf ih_12
    unfold F_X12_asks_12 at hf
    refine e_iload (pc := 12) C dX12_asks_12 5 rfl ?_
    refine e_bipush (v := (6 : Int32)) (pc := 14) C dX12_asks_14 (by decide) ?_
    rcases it_e hf with ⟨c1, hf⟩ | ⟨c1, hf⟩
    · refine e_icmp_ge (pc := 16) (tgt := 33) C dX12_asks_16 (by decide) (fun _ => ?_) (fun q => absurd c1 q)
      refine e_lv (lv2 := [(0, .ref v0), (1, .int v1), (2, .int v2), (3, .int v3), (4, .int v4)]) [0, 1, 2, 3, 4] rfl ?_
      exact hK_33 h hf
    · refine e_icmp_ge (pc := 16) (tgt := 33) C dX12_asks_16 (by decide) (fun q => absurd q c1) (fun _ => ?_)
      refine e_aload_n (pc := 19) C dX12_asks_19 0 rfl rfl ?_
      obtain ⟨t2, hf⟩ := ck_e hf
      refine e_getr (pc := 20) 12 52 C dX12_asks_20 (by decide) (by decide) g1453 rfl t2 ?_
      obtain ⟨b3, eb3, hf⟩ := ob_e hf
      refine e_rf eb3 ?_
      refine e_iload (pc := 23) C dX12_asks_23 5 rfl ?_
      refine e_iconst (v := (0 : Int32)) (pc := 25) C dX12_asks_25 (by decide) ?_
      obtain ⟨q4, hf⟩ := ck_e hf
      obtain ⟨n5, tn5, in5⟩ := ix_e q4
      refine e_iast (pc := 26) C dX12_asks_26 tn5 in5 ?_
      obtain ⟨h6, eh6, hf⟩ := nn_e hf
      refine e_hp eh6 ?_
      have uh6 : m_t h6 = m_t h := by rw [eh6]; exact rfl
      obtain ⟨x7, ex7, hf⟩ := nn_e hf
      refine e_iinc (pc := 27) (v := x7) (lv2 := [(5, .int x7), (0, .ref v0), (1, .int v1), (2, .int v2), (3, .int v3), (4, .int v4)]) C hm dX12_asks_27 5 rfl (by rw [ex7]; rfl) (by decide) rfl ?_
      refine e_goto (pc := 30) (tgt := 12) C dX12_asks_30 (by decide) ?_
      refine e_lv (lv2 := [(0, .ref v0), (1, .int v1), (2, .int v2), (3, .int v3), (4, .int v4), (5, .int x7)]) [1, 2, 3, 4, 5, 0] rfl ?_
      exact ih_12 x7 h6 hf
set_option maxHeartbeats 4000000 in
set_option maxRecDepth 100000 in
theorem el_X12_asks_36 {G : GG} {p : Program} {l : Launch} {e : Env} {s : State} {m : MethodId} {args : Array Value} {below : List Frame} {meth : Method} {c : Code} {y : AH} (C : Cx G cX12_asks RX12 p s m args meth c) (hm : c.maxLocals = 7) (hr : meth.sig.returnType = none) (hin : meth.name = yX12_asks.name) {v0 : Nat} {K_151 : Int32 → Int32 → Int32 → Int32 → AH → Option (AH)} (hK_151 : ∀ (w1 : Int32) (w2 : Int32) (w3 : Int32) (w4 : Int32) (h : AH), K_151 w1 w2 w3 w4 h = some y → EE G p l e ({ frames := 2, cells := 0, slots := 0, locals := 46 } : Room) s m args below meth c (none, y) 0 0 151 [(0, .ref v0), (1, .int w1), (2, .int w2), (3, .int w3), (4, .int w4)] [] h 0 0) :
    ∀ (n : Nat) (v1 : Int32) (v2 : Int32) (v3 : Int32) (v4 : Int32) (v5 : Int32) (h : AH), lq5 (F_X12_asks_36 G v0 K_151) n v1 v2 v3 v4 v5 h = some y → EE G p l e ({ frames := 2, cells := 0, slots := 0, locals := 46 } : Room) s m args below meth c (none, y) 0 0 36 [(0, .ref v0), (1, .int v1), (2, .int v2), (3, .int v3), (4, .int v4), (5, .int v5)] [] h 0 0 := by
  intro n
  induction n with
  | zero => intro v1 v2 v3 v4 v5 h hf; exact (no_e hf).elim
  | succ n ih_36 =>
    intro v1 v2 v3 v4 v5 h hf
    have hf : F_X12_asks_36 G v0 K_151 (lq5 (F_X12_asks_36 G v0 K_151) n) v1 v2 v3 v4 v5 h = some y := hf
    generalize lq5 (F_X12_asks_36 G v0 K_151) n = self_36 at hf ih_36
    unfold F_X12_asks_36 at hf
    refine e_iload (pc := 36) C dX12_asks_36 5 rfl ?_
    refine e_aload_n (pc := 38) C dX12_asks_38 0 rfl rfl ?_
    obtain ⟨t8, hf⟩ := ck_e hf
    refine e_getr (pc := 39) 12 1 C dX12_asks_39 (by decide) (by decide) g1402 rfl t8 ?_
    obtain ⟨b9, eb9, hf⟩ := ob_e hf
    refine e_rf eb9 ?_
    refine e_bipush (v := (6 : Int32)) (pc := 42) C dX12_asks_42 (by decide) ?_
    obtain ⟨q10, hf⟩ := ck_e hf
    obtain ⟨n11, tn11, in11⟩ := ix_e q10
    refine e_iald (pc := 44) C dX12_asks_44 tn11 in11 ?_
    rcases it_e hf with ⟨c12, hf⟩ | ⟨c12, hf⟩
    · refine e_icmp_ge (pc := 45) (tgt := 151) C dX12_asks_45 (by decide) (fun _ => ?_) (fun q => absurd c12 q)
      refine e_lv (lv2 := [(0, .ref v0), (1, .int v1), (2, .int v2), (3, .int v3), (4, .int v4)]) [0, 1, 2, 3, 4] rfl ?_
      exact hK_151 v1 v2 v3 v4 h hf
    · refine e_icmp_ge (pc := 45) (tgt := 151) C dX12_asks_45 (by decide) (fun q => absurd q c12) (fun _ => ?_)
      refine e_aload_n (pc := 48) C dX12_asks_48 0 rfl rfl ?_
      refine e_iload (pc := 49) C dX12_asks_49 5 rfl ?_
      obtain ⟨r15, h13, y14, hf⟩ := cb_e hf
      refine e_callVi (pc := 51) (st := []) 12 C (ct_X12_rides y14) dX12_asks_51 (by decide) t8 g1778 g1780 g76 g157 g1781 hd_X12_rides rfl ⟨Nat.le_of_ble_eq_true rfl, Nat.le_of_ble_eq_true rfl⟩ ⟨Nat.le_of_ble_eq_true rfl, Nat.le_of_ble_eq_true rfl⟩ rfl (Nat.le_of_ble_eq_true rfl) ?_
      obtain ⟨j_145, ej_145, hf⟩ := nn_e hf
      have W_145 : ∀ (v1_145 : Int32) (v2_145 : Int32) (v3_145 : Int32) (v4_145 : Int32) (h_145 : AH), j_145 v1_145 v2_145 v3_145 v4_145 h_145 = some y → EE G p l e ({ frames := 2, cells := 0, slots := 0, locals := 46 } : Room) s m args below meth c (none, y) 0 0 145 [(0, .ref v0), (1, .int v1_145), (2, .int v2_145), (3, .int v3_145), (4, .int v4_145), (5, .int v5)] [] h_145 0 0 := by
        intro v1_145 v2_145 v3_145 v4_145 h_145 hf
        rw [ej_145] at hf
        obtain ⟨x16, ex16, hf⟩ := nn_e hf
        refine e_iinc (pc := 145) (v := x16) (lv2 := [(5, .int x16), (0, .ref v0), (1, .int v1_145), (2, .int v2_145), (3, .int v3_145), (4, .int v4_145)]) C hm dX12_asks_145 5 rfl (by rw [ex16]; rfl) (by decide) rfl ?_
        refine e_goto (pc := 148) (tgt := 36) C dX12_asks_148 (by decide) ?_
        refine e_lv (lv2 := [(0, .ref v0), (1, .int v1_145), (2, .int v2_145), (3, .int v3_145), (4, .int v4_145), (5, .int x16)]) [1, 2, 3, 4, 5, 0] rfl ?_
        exact ih_36 v1_145 v2_145 v3_145 v4_145 x16 h_145 hf
      rcases it_e hf with ⟨c17, hf⟩ | ⟨c17, hf⟩
      · refine e_if_eq (pc := 54) (tgt := 145) C dX12_asks_54 (by decide) (fun _ => ?_) (fun q => absurd c17 q)
        exact W_145 v1 v2 v3 v4 h13 hf
      · refine e_if_eq (pc := 54) (tgt := 145) C dX12_asks_54 (by decide) (fun q => absurd q c17) (fun _ => ?_)
        refine e_aload_n (pc := 57) C dX12_asks_57 0 rfl rfl ?_
        refine e_iload (pc := 58) C dX12_asks_58 5 rfl ?_
        obtain ⟨t18, hf⟩ := ck_e hf
        obtain ⟨r21, h19, y20, hf⟩ := cb_e hf
        refine e_callVi (pc := 60) (st := []) 12 C (ct_X12_wantOf y20) dX12_asks_60 (by decide) t18 g1870 g1872 g91 g157 g1873 hd_X12_wantOf rfl ⟨Nat.le_of_ble_eq_true rfl, Nat.le_of_ble_eq_true rfl⟩ ⟨Nat.le_of_ble_eq_true rfl, Nat.le_of_ble_eq_true rfl⟩ rfl (Nat.le_of_ble_eq_true rfl) ?_
        refine e_istore (pc := 63) (lv2 := [(6, .int r21), (0, .ref v0), (1, .int v1), (2, .int v2), (3, .int v3), (4, .int v4), (5, .int v5)]) C hm dX12_asks_63 (by decide) rfl ?_
        obtain ⟨x22, ex22, hf⟩ := nn_e hf
        refine e_iinc (pc := 65) (v := x22) (lv2 := [(1, .int x22), (6, .int r21), (0, .ref v0), (2, .int v2), (3, .int v3), (4, .int v4), (5, .int v5)]) C hm dX12_asks_65 2 rfl (by rw [ex22]; rfl) (by decide) rfl ?_
        refine e_aload_n (pc := 68) C dX12_asks_68 2 rfl rfl ?_
        obtain ⟨t23, hf⟩ := ck_e hf
        refine e_getr (pc := 69) 12 52 C dX12_asks_69 (by decide) (by decide) g1453 rfl t23 ?_
        obtain ⟨b24, eb24, hf⟩ := ob_e hf
        refine e_rf eb24 ?_
        refine e_iload (pc := 72) C dX12_asks_72 1 rfl ?_
        refine e_dup2 (pc := 74) C dX12_asks_74 rfl rfl ?_
        obtain ⟨q25, hf⟩ := ck_e hf
        obtain ⟨n26, tn26, in26⟩ := ix_e q25
        refine e_iald (pc := 75) C dX12_asks_75 tn26 in26 ?_
        refine e_iconst (v := (1 : Int32)) (pc := 76) C dX12_asks_76 (by decide) ?_
        refine e_iadd (pc := 77) C dX12_asks_77 ?_
        obtain ⟨q27, hf⟩ := ck_e hf
        obtain ⟨n28, tn28, in28⟩ := ix_e q27
        refine e_iast (pc := 78) C dX12_asks_78 tn28 in28 ?_
        obtain ⟨h29, eh29, hf⟩ := nn_e hf
        refine e_hp eh29 ?_
        have uh29 : m_t h29 = m_t h19 := by rw [eh29]; exact rfl
        refine e_iload_n (pc := 79) C dX12_asks_79 3 rfl rfl ?_
        refine e_iload (pc := 80) C dX12_asks_80 1 rfl ?_
        refine e_aload_n (pc := 82) C dX12_asks_82 2 rfl rfl ?_
        refine e_getr (pc := 83) 12 1 C dX12_asks_83 (by decide) (by decide) g1402 rfl (e_mt uh29 t23) ?_
        obtain ⟨b30, eb30, hf⟩ := ob_e hf
        refine e_rf eb30 ?_
        refine e_bipush (v := (13 : Int32)) (pc := 86) C dX12_asks_86 (by decide) ?_
        obtain ⟨q31, hf⟩ := ck_e hf
        obtain ⟨n32, tn32, in32⟩ := ix_e q31
        refine e_iald (pc := 88) C dX12_asks_88 tn32 in32 ?_
        obtain ⟨j_97, ej_97, hf⟩ := nn_e hf
        have W_97 : ∀ (s0_97 : Int32), j_97 s0_97 = some y → EE G p l e ({ frames := 2, cells := 0, slots := 0, locals := 46 } : Room) s m args below meth c (none, y) 0 0 97 [(0, .ref v0), (1, .int x22), (3, .int v3), (4, .int v4), (5, .int v5), (6, .int r21)] [.int s0_97, .int v2] h29 0 0 := by
          intro s0_97 hf
          rw [ej_97] at hf
          refine e_iadd (pc := 97) C dX12_asks_97 ?_
          obtain ⟨x33, ex33, hf⟩ := nn_e hf
          refine e_topi ex33 ?_
          refine e_istore_n (pc := 98) (lv2 := [(2, .int x33), (0, .ref v0), (1, .int x22), (3, .int v3), (4, .int v4), (5, .int v5), (6, .int r21)]) C hm dX12_asks_98 rfl (by decide) rfl ?_
          refine e_iload_n (pc := 99) C dX12_asks_99 3 rfl rfl ?_
          refine e_iload (pc := 100) C dX12_asks_100 6 rfl ?_
          refine e_aload_n (pc := 102) C dX12_asks_102 1 rfl rfl ?_
          refine e_getr (pc := 103) 12 1 C dX12_asks_103 (by decide) (by decide) g1402 rfl (e_mt uh29 t23) ?_
          obtain ⟨b34, eb34, hf⟩ := ob_e hf
          refine e_rf eb34 ?_
          refine e_bipush (v := (13 : Int32)) (pc := 106) C dX12_asks_106 (by decide) ?_
          obtain ⟨q35, hf⟩ := ck_e hf
          obtain ⟨n36, tn36, in36⟩ := ix_e q35
          refine e_iald (pc := 108) C dX12_asks_108 tn36 in36 ?_
          obtain ⟨j_117, ej_117, hf⟩ := nn_e hf
          have W_117 : ∀ (s0_117 : Int32), j_117 s0_117 = some y → EE G p l e ({ frames := 2, cells := 0, slots := 0, locals := 46 } : Room) s m args below meth c (none, y) 0 0 117 [(0, .ref v0), (1, .int x22), (2, .int x33), (4, .int v4), (5, .int v5)] [.int s0_117, .int v3] h29 0 0 := by
            intro s0_117 hf
            rw [ej_117] at hf
            refine e_iadd (pc := 117) C dX12_asks_117 ?_
            obtain ⟨x37, ex37, hf⟩ := nn_e hf
            refine e_topi ex37 ?_
            refine e_istore_n (pc := 118) (lv2 := [(3, .int x37), (0, .ref v0), (1, .int x22), (2, .int x33), (4, .int v4), (5, .int v5)]) C hm dX12_asks_118 rfl (by decide) rfl ?_
            refine e_aload_n (pc := 119) C dX12_asks_119 1 rfl rfl ?_
            refine e_getr (pc := 120) 12 11 C dX12_asks_120 (by decide) (by decide) g1412 rfl (e_mt uh29 t23) ?_
            obtain ⟨b38, eb38, hf⟩ := ob_e hf
            refine e_rf eb38 ?_
            refine e_iload (pc := 123) C dX12_asks_123 5 rfl ?_
            obtain ⟨q39, hf⟩ := ck_e hf
            obtain ⟨n40, tn40, in40⟩ := ix_e q39
            refine e_iald (pc := 125) C dX12_asks_125 tn40 in40 ?_
            refine e_iload (pc := 126) C dX12_asks_126 4 rfl ?_
            obtain ⟨j_143, ej_143, hf⟩ := nn_e hf
            have W_143 : ∀ (s0_143 : Int32), j_143 s0_143 = some y → EE G p l e ({ frames := 2, cells := 0, slots := 0, locals := 46 } : Room) s m args below meth c (none, y) 0 0 143 [(0, .ref v0), (1, .int x22), (2, .int x33), (3, .int x37), (5, .int v5)] [.int s0_143] h29 0 0 := by
              intro s0_143 hf
              rw [ej_143] at hf
              refine e_istore (pc := 143) (lv2 := [(4, .int s0_143), (0, .ref v0), (1, .int x22), (2, .int x33), (3, .int x37), (5, .int v5)]) C hm dX12_asks_143 (by decide) rfl ?_
              refine e_lv (lv2 := [(0, .ref v0), (1, .int x22), (2, .int x33), (3, .int x37), (4, .int s0_143), (5, .int v5)]) [1, 2, 3, 4, 0, 5] rfl ?_
              exact W_145 x22 x33 x37 s0_143 h29 hf
            rcases it_e hf with ⟨c41, hf⟩ | ⟨c41, hf⟩
            · refine e_icmp_le (pc := 128) (tgt := 141) C dX12_asks_128 (by decide) (fun _ => ?_) (fun q => absurd c41 q)
              refine e_iload (pc := 141) C dX12_asks_141 4 rfl ?_
              refine e_lv (lv2 := [(0, .ref v0), (1, .int x22), (2, .int x33), (3, .int x37), (5, .int v5)]) [1, 2, 3, 0, 5] rfl ?_
              exact W_143 v4 hf
            · refine e_icmp_le (pc := 128) (tgt := 141) C dX12_asks_128 (by decide) (fun q => absurd q c41) (fun _ => ?_)
              refine e_aload_n (pc := 131) C dX12_asks_131 1 rfl rfl ?_
              refine e_getr (pc := 132) 12 11 C dX12_asks_132 (by decide) (by decide) g1412 rfl (e_mt uh29 t23) ?_
              obtain ⟨b42, eb42, hf⟩ := ob_e hf
              refine e_rf eb42 ?_
              refine e_iload (pc := 135) C dX12_asks_135 5 rfl ?_
              obtain ⟨q43, hf⟩ := ck_e hf
              obtain ⟨n44, tn44, in44⟩ := ix_e q43
              refine e_iald (pc := 137) C dX12_asks_137 tn44 in44 ?_
              refine e_goto (pc := 138) (tgt := 143) C dX12_asks_138 (by decide) ?_
              refine e_lv (lv2 := [(0, .ref v0), (1, .int x22), (2, .int x33), (3, .int x37), (5, .int v5)]) [1, 2, 3, 0, 5] rfl ?_
              exact W_143 (m_i h29 b42 v5.toNatClampNeg) hf
          rcases it_e hf with ⟨c45, hf⟩ | ⟨c45, hf⟩
          · refine e_icmp_ge (pc := 109) (tgt := 116) C dX12_asks_109 (by decide) (fun _ => ?_) (fun q => absurd c45 q)
            refine e_iconst (v := (0 : Int32)) (pc := 116) C dX12_asks_116 (by decide) ?_
            refine e_lv (lv2 := [(0, .ref v0), (1, .int x22), (2, .int x33), (4, .int v4), (5, .int v5)]) [1, 2, 0, 4, 5] rfl ?_
            exact W_117 (0 : Int32) hf
          · refine e_icmp_ge (pc := 109) (tgt := 116) C dX12_asks_109 (by decide) (fun q => absurd q c45) (fun _ => ?_)
            refine e_iconst (v := (1 : Int32)) (pc := 112) C dX12_asks_112 (by decide) ?_
            refine e_goto (pc := 113) (tgt := 117) C dX12_asks_113 (by decide) ?_
            refine e_lv (lv2 := [(0, .ref v0), (1, .int x22), (2, .int x33), (4, .int v4), (5, .int v5)]) [1, 2, 0, 4, 5] rfl ?_
            exact W_117 (1 : Int32) hf
        rcases it_e hf with ⟨c46, hf⟩ | ⟨c46, hf⟩
        · refine e_icmp_le (pc := 89) (tgt := 96) C dX12_asks_89 (by decide) (fun _ => ?_) (fun q => absurd c46 q)
          refine e_iconst (v := (0 : Int32)) (pc := 96) C dX12_asks_96 (by decide) ?_
          refine e_lv (lv2 := [(0, .ref v0), (1, .int x22), (3, .int v3), (4, .int v4), (5, .int v5), (6, .int r21)]) [2, 0, 4, 5, 6, 1] rfl ?_
          exact W_97 (0 : Int32) hf
        · refine e_icmp_le (pc := 89) (tgt := 96) C dX12_asks_89 (by decide) (fun q => absurd q c46) (fun _ => ?_)
          refine e_iconst (v := (1 : Int32)) (pc := 92) C dX12_asks_92 (by decide) ?_
          refine e_goto (pc := 93) (tgt := 97) C dX12_asks_93 (by decide) ?_
          refine e_lv (lv2 := [(0, .ref v0), (1, .int x22), (3, .int v3), (4, .int v4), (5, .int v5), (6, .int r21)]) [2, 0, 4, 5, 6, 1] rfl ?_
          exact W_97 (1 : Int32) hf
set_option maxHeartbeats 4000000 in
set_option maxRecDepth 100000 in
theorem ct_X12_asks {G : GG} {l : Launch} {v0 : Nat} {h : AH} {y : AH} (hf : f_X12_asks G v0 h = some y) : Ct G l yX12_asks cX12_asks 7 none 2 46 0 0 [.ref v0] h (none, y) := by
  refine ct_of (by decide) (Nat.le_of_ble_eq_true rfl) ?_
  intro p e s m args below meth c C hm hr hin
  have C : Cx G cX12_asks RX12 p s m args meth c := C
  refine e_lv (lv2 := [(0, .ref v0)]) [0] rfl ?_
  unfold f_X12_asks at hf
  refine e_iconst (v := (0 : Int32)) (pc := 0) C dX12_asks_0 (by decide) ?_
  refine e_istore_n (pc := 1) (lv2 := [(1, .int (0 : Int32)), (0, .ref v0)]) C hm dX12_asks_1 rfl (by decide) rfl ?_
  refine e_iconst (v := (0 : Int32)) (pc := 2) C dX12_asks_2 (by decide) ?_
  refine e_istore_n (pc := 3) (lv2 := [(2, .int (0 : Int32)), (1, .int (0 : Int32)), (0, .ref v0)]) C hm dX12_asks_3 rfl (by decide) rfl ?_
  refine e_iconst (v := (0 : Int32)) (pc := 4) C dX12_asks_4 (by decide) ?_
  refine e_istore_n (pc := 5) (lv2 := [(3, .int (0 : Int32)), (2, .int (0 : Int32)), (1, .int (0 : Int32)), (0, .ref v0)]) C hm dX12_asks_5 rfl (by decide) rfl ?_
  refine e_iconst (v := (0 : Int32)) (pc := 6) C dX12_asks_6 (by decide) ?_
  refine e_istore (pc := 7) (lv2 := [(4, .int (0 : Int32)), (3, .int (0 : Int32)), (2, .int (0 : Int32)), (1, .int (0 : Int32)), (0, .ref v0)]) C hm dX12_asks_7 (by decide) rfl ?_
  refine e_iconst (v := (0 : Int32)) (pc := 9) C dX12_asks_9 (by decide) ?_
  refine e_istore (pc := 10) (lv2 := [(5, .int (0 : Int32)), (4, .int (0 : Int32)), (3, .int (0 : Int32)), (2, .int (0 : Int32)), (1, .int (0 : Int32)), (0, .ref v0)]) C hm dX12_asks_10 (by decide) rfl ?_
  refine e_lv (lv2 := [(0, .ref v0), (1, .int (0 : Int32)), (2, .int (0 : Int32)), (3, .int (0 : Int32)), (4, .int (0 : Int32)), (5, .int (0 : Int32))]) [5, 4, 3, 2, 1, 0] rfl ?_
  refine el_X12_asks_12 C hm hr hin (fun h_33 hf => ?_) bN (0 : Int32) h hf
  refine e_iconst (v := (0 : Int32)) (pc := 33) C dX12_asks_33 (by decide) ?_
  refine e_istore (pc := 34) (lv2 := [(5, .int (0 : Int32)), (0, .ref v0), (1, .int (0 : Int32)), (2, .int (0 : Int32)), (3, .int (0 : Int32)), (4, .int (0 : Int32))]) C hm dX12_asks_34 (by decide) rfl ?_
  refine e_lv (lv2 := [(0, .ref v0), (1, .int (0 : Int32)), (2, .int (0 : Int32)), (3, .int (0 : Int32)), (4, .int (0 : Int32)), (5, .int (0 : Int32))]) [1, 2, 3, 4, 5, 0] rfl ?_
  refine el_X12_asks_36 C hm hr hin (fun v1_151 v2_151 v3_151 v4_151 h_151 hf => ?_) bN (0 : Int32) (0 : Int32) (0 : Int32) (0 : Int32) (0 : Int32) h_33 hf
  refine e_aload_n (pc := 151) C dX12_asks_151 0 rfl rfl ?_
  refine e_iconst (v := (0 : Int32)) (pc := 152) C dX12_asks_152 (by decide) ?_
  obtain ⟨t47, hf⟩ := ck_e hf
  obtain ⟨r50, h48, y49, hf⟩ := cb_e hf
  refine e_callVi (pc := 153) (st := []) 12 C (ct_X12_sitterOf y49) dX12_asks_153 (by decide) t47 g1774 g1776 g75 g157 g1777 hd_X12_sitterOf rfl ⟨Nat.le_of_ble_eq_true rfl, Nat.le_of_ble_eq_true rfl⟩ ⟨Nat.le_of_ble_eq_true rfl, Nat.le_of_ble_eq_true rfl⟩ rfl (Nat.le_of_ble_eq_true rfl) ?_
  refine e_istore (pc := 156) (lv2 := [(5, .int r50), (0, .ref v0), (1, .int v1_151), (2, .int v2_151), (3, .int v3_151), (4, .int v4_151)]) C hm dX12_asks_156 (by decide) rfl ?_
  refine e_aload_n (pc := 158) C dX12_asks_158 1 rfl rfl ?_
  obtain ⟨t51, hf⟩ := ck_e hf
  refine e_getr (pc := 159) 12 50 C dX12_asks_159 (by decide) (by decide) g1451 rfl t51 ?_
  obtain ⟨b52, eb52, hf⟩ := ob_e hf
  refine e_rf eb52 ?_
  refine e_iconst (v := (0 : Int32)) (pc := 162) C dX12_asks_162 (by decide) ?_
  refine e_aload_n (pc := 163) C dX12_asks_163 1 rfl rfl ?_
  refine e_getr (pc := 164) 12 1 C dX12_asks_164 (by decide) (by decide) g1402 rfl t51 ?_
  obtain ⟨b53, eb53, hf⟩ := ob_e hf
  refine e_rf eb53 ?_
  refine e_bipush (v := (13 : Int32)) (pc := 167) C dX12_asks_167 (by decide) ?_
  obtain ⟨q54, hf⟩ := ck_e hf
  obtain ⟨n55, tn55, in55⟩ := ix_e q54
  refine e_iald (pc := 169) C dX12_asks_169 tn55 in55 ?_
  refine e_i2l (pc := 170) C dX12_asks_170 ?_
  obtain ⟨q56, hf⟩ := ck_e hf
  obtain ⟨n57, tn57, in57⟩ := ix_e q56
  refine e_last (pc := 171) C dX12_asks_171 tn57 in57 ?_
  obtain ⟨h58, eh58, hf⟩ := nn_e hf
  refine e_hp eh58 ?_
  have uh58 : m_t h58 = m_t h48 := by rw [eh58]; exact rfl
  refine e_aload_n (pc := 172) C dX12_asks_172 1 rfl rfl ?_
  refine e_getr (pc := 173) 12 50 C dX12_asks_173 (by decide) (by decide) g1451 rfl (e_mt uh58 t51) ?_
  obtain ⟨b59, eb59, hf⟩ := ob_e hf
  refine e_rf eb59 ?_
  refine e_iconst (v := (1 : Int32)) (pc := 176) C dX12_asks_176 (by decide) ?_
  refine e_aload_n (pc := 177) C dX12_asks_177 1 rfl rfl ?_
  refine e_getr (pc := 178) 12 1 C dX12_asks_178 (by decide) (by decide) g1402 rfl (e_mt uh58 t51) ?_
  obtain ⟨b60, eb60, hf⟩ := ob_e hf
  refine e_rf eb60 ?_
  refine e_bipush (v := (11 : Int32)) (pc := 181) C dX12_asks_181 (by decide) ?_
  obtain ⟨q61, hf⟩ := ck_e hf
  obtain ⟨n62, tn62, in62⟩ := ix_e q61
  refine e_iald (pc := 183) C dX12_asks_183 tn62 in62 ?_
  refine e_i2l (pc := 184) C dX12_asks_184 ?_
  obtain ⟨q63, hf⟩ := ck_e hf
  obtain ⟨n64, tn64, in64⟩ := ix_e q63
  refine e_last (pc := 185) C dX12_asks_185 tn64 in64 ?_
  obtain ⟨h65, eh65, hf⟩ := nn_e hf
  refine e_hp eh65 ?_
  have uh65 : m_t h65 = m_t h48 := by rw [eh65]; exact uh58
  refine e_aload_n (pc := 186) C dX12_asks_186 1 rfl rfl ?_
  refine e_getr (pc := 187) 12 50 C dX12_asks_187 (by decide) (by decide) g1451 rfl (e_mt uh65 t51) ?_
  obtain ⟨b66, eb66, hf⟩ := ob_e hf
  refine e_rf eb66 ?_
  refine e_iconst (v := (2 : Int32)) (pc := 190) C dX12_asks_190 (by decide) ?_
  refine e_aload_n (pc := 191) C dX12_asks_191 1 rfl rfl ?_
  refine e_getr (pc := 192) 12 1 C dX12_asks_192 (by decide) (by decide) g1402 rfl (e_mt uh65 t51) ?_
  obtain ⟨b67, eb67, hf⟩ := ob_e hf
  refine e_rf eb67 ?_
  refine e_bipush (v := (10 : Int32)) (pc := 195) C dX12_asks_195 (by decide) ?_
  obtain ⟨q68, hf⟩ := ck_e hf
  obtain ⟨n69, tn69, in69⟩ := ix_e q68
  refine e_iald (pc := 197) C dX12_asks_197 tn69 in69 ?_
  refine e_i2l (pc := 198) C dX12_asks_198 ?_
  obtain ⟨q70, hf⟩ := ck_e hf
  obtain ⟨n71, tn71, in71⟩ := ix_e q70
  refine e_last (pc := 199) C dX12_asks_199 tn71 in71 ?_
  obtain ⟨h72, eh72, hf⟩ := nn_e hf
  refine e_hp eh72 ?_
  have uh72 : m_t h72 = m_t h48 := by rw [eh72]; exact uh65
  refine e_aload_n (pc := 200) C dX12_asks_200 1 rfl rfl ?_
  refine e_getr (pc := 201) 12 50 C dX12_asks_201 (by decide) (by decide) g1451 rfl (e_mt uh72 t51) ?_
  obtain ⟨b73, eb73, hf⟩ := ob_e hf
  refine e_rf eb73 ?_
  refine e_iconst (v := (3 : Int32)) (pc := 204) C dX12_asks_204 (by decide) ?_
  refine e_aload_n (pc := 205) C dX12_asks_205 1 rfl rfl ?_
  refine e_aload_n (pc := 206) C dX12_asks_206 1 rfl rfl ?_
  refine e_getr (pc := 207) 12 1 C dX12_asks_207 (by decide) (by decide) g1402 rfl (e_mt uh72 t51) ?_
  obtain ⟨b74, eb74, hf⟩ := ob_e hf
  refine e_rf eb74 ?_
  refine e_bipush (v := (10 : Int32)) (pc := 210) C dX12_asks_210 (by decide) ?_
  obtain ⟨q75, hf⟩ := ck_e hf
  obtain ⟨n76, tn76, in76⟩ := ix_e q75
  refine e_iald (pc := 212) C dX12_asks_212 tn76 in76 ?_
  obtain ⟨r79, h77, y78, hf⟩ := cb_e hf
  refine e_callVi (pc := 213) (st := [.int (3 : Int32), .ref b73]) 12 C (ct_X12_isTunnel y78) dX12_asks_213 (by decide) (e_mt uh72 t51) g1889 g1891 g94 g157 g1892 hd_X12_isTunnel rfl ⟨Nat.le_of_ble_eq_true rfl, Nat.le_of_ble_eq_true rfl⟩ ⟨Nat.le_of_ble_eq_true rfl, Nat.le_of_ble_eq_true rfl⟩ rfl (Nat.le_of_ble_eq_true rfl) ?_
  obtain ⟨j_224, ej_224, hf⟩ := nn_e hf
  have W_224 : ∀ (s0_224 : Int64), j_224 s0_224 = some y → EE G p l e ({ frames := 2, cells := 0, slots := 0, locals := 46 } : Room) s m args below meth c (none, y) 0 0 224 [(0, .ref v0), (1, .int v1_151), (2, .int v2_151), (3, .int v3_151), (4, .int v4_151), (5, .int r50)] [.long s0_224, .int (3 : Int32), .ref b73] h77 0 0 := by
    intro s0_224 hf
    rw [ej_224] at hf
    obtain ⟨q80, hf⟩ := ck_e hf
    obtain ⟨n81, tn81, in81⟩ := ix_e q80
    refine e_last (pc := 224) C dX12_asks_224 tn81 in81 ?_
    obtain ⟨h82, eh82, hf⟩ := nn_e hf
    refine e_hp eh82 ?_
    have uh82 : m_t h82 = m_t h77 := by rw [eh82]; exact rfl
    refine e_aload_n (pc := 225) C dX12_asks_225 0 rfl rfl ?_
    obtain ⟨t83, hf⟩ := ck_e hf
    refine e_getr (pc := 226) 12 50 C dX12_asks_226 (by decide) (by decide) g1451 rfl t83 ?_
    obtain ⟨b84, eb84, hf⟩ := ob_e hf
    refine e_rf eb84 ?_
    refine e_iconst (v := (4 : Int32)) (pc := 229) C dX12_asks_229 (by decide) ?_
    refine e_aload_n (pc := 230) C dX12_asks_230 0 rfl rfl ?_
    obtain ⟨r87, h85, y86, hf⟩ := cb_e hf
    refine e_callVi (pc := 231) (st := [.int (4 : Int32), .ref b84]) 12 C (ct_X12_nextTunnel y86) dX12_asks_231 (by decide) t83 g1956 g1958 g105 g157 g1959 hd_X12_nextTunnel rfl ⟨Nat.le_of_ble_eq_true rfl, Nat.le_of_ble_eq_true rfl⟩ ⟨Nat.le_of_ble_eq_true rfl, Nat.le_of_ble_eq_true rfl⟩ rfl (Nat.le_of_ble_eq_true rfl) ?_
    refine e_i2l (pc := 234) C dX12_asks_234 ?_
    obtain ⟨q88, hf⟩ := ck_e hf
    obtain ⟨n89, tn89, in89⟩ := ix_e q88
    refine e_last (pc := 235) C dX12_asks_235 tn89 in89 ?_
    obtain ⟨h90, eh90, hf⟩ := nn_e hf
    refine e_hp eh90 ?_
    have uh90 : m_t h90 = m_t h85 := by rw [eh90]; exact rfl
    refine e_aload_n (pc := 236) C dX12_asks_236 0 rfl rfl ?_
    obtain ⟨t91, hf⟩ := ck_e hf
    refine e_getr (pc := 237) 12 50 C dX12_asks_237 (by decide) (by decide) g1451 rfl t91 ?_
    obtain ⟨b92, eb92, hf⟩ := ob_e hf
    refine e_rf eb92 ?_
    refine e_iconst (v := (5 : Int32)) (pc := 240) C dX12_asks_240 (by decide) ?_
    refine e_iload (pc := 241) C dX12_asks_241 5 rfl ?_
    refine e_iconst (v := (-1 : Int32)) (pc := 243) C dX12_asks_243 (by decide) ?_
    obtain ⟨j_260, ej_260, hf⟩ := nn_e hf
    have W_260 : ∀ (s0_260 : Int64) (h_260 : AH), j_260 s0_260 h_260 = some y → EE G p l e ({ frames := 2, cells := 0, slots := 0, locals := 46 } : Room) s m args below meth c (none, y) 0 0 260 [(0, .ref v0), (1, .int v1_151), (2, .int v2_151), (3, .int v3_151), (4, .int v4_151)] [.long s0_260, .int (5 : Int32), .ref b92] h_260 0 0 := by
      intro s0_260 h_260 hf
      rw [ej_260] at hf
      obtain ⟨q93, hf⟩ := ck_e hf
      obtain ⟨n94, tn94, in94⟩ := ix_e q93
      refine e_last (pc := 260) C dX12_asks_260 tn94 in94 ?_
      obtain ⟨h95, eh95, hf⟩ := nn_e hf
      refine e_hp eh95 ?_
      have uh95 : m_t h95 = m_t h_260 := by rw [eh95]; exact rfl
      refine e_aload_n (pc := 261) C dX12_asks_261 0 rfl rfl ?_
      obtain ⟨t96, hf⟩ := ck_e hf
      refine e_getr (pc := 262) 12 50 C dX12_asks_262 (by decide) (by decide) g1451 rfl t96 ?_
      obtain ⟨b97, eb97, hf⟩ := ob_e hf
      refine e_rf eb97 ?_
      refine e_bipush (v := (6 : Int32)) (pc := 265) C dX12_asks_265 (by decide) ?_
      refine e_aload_n (pc := 267) C dX12_asks_267 0 rfl rfl ?_
      refine e_iload_n (pc := 268) C dX12_asks_268 1 rfl rfl ?_
      obtain ⟨r100, h98, y99, hf⟩ := cb_e hf
      refine e_callVi (pc := 269) (st := [.int (6 : Int32), .ref b97]) 12 C (ct_X12_middleOf y99) dX12_asks_269 (by decide) t96 g1960 g1962 g106 g157 g1963 hd_X12_middleOf rfl ⟨Nat.le_of_ble_eq_true rfl, Nat.le_of_ble_eq_true rfl⟩ ⟨Nat.le_of_ble_eq_true rfl, Nat.le_of_ble_eq_true rfl⟩ rfl (Nat.le_of_ble_eq_true rfl) ?_
      refine e_i2l (pc := 272) C dX12_asks_272 ?_
      obtain ⟨q101, hf⟩ := ck_e hf
      obtain ⟨n102, tn102, in102⟩ := ix_e q101
      refine e_last (pc := 273) C dX12_asks_273 tn102 in102 ?_
      obtain ⟨h103, eh103, hf⟩ := nn_e hf
      refine e_hp eh103 ?_
      have uh103 : m_t h103 = m_t h98 := by rw [eh103]; exact rfl
      refine e_aload_n (pc := 274) C dX12_asks_274 0 rfl rfl ?_
      obtain ⟨t104, hf⟩ := ck_e hf
      refine e_getr (pc := 275) 12 50 C dX12_asks_275 (by decide) (by decide) g1451 rfl t104 ?_
      obtain ⟨b105, eb105, hf⟩ := ob_e hf
      refine e_rf eb105 ?_
      refine e_bipush (v := (7 : Int32)) (pc := 278) C dX12_asks_278 (by decide) ?_
      refine e_aload_n (pc := 280) C dX12_asks_280 0 rfl rfl ?_
      refine e_iload_n (pc := 281) C dX12_asks_281 1 rfl rfl ?_
      obtain ⟨r108, h106, y107, hf⟩ := cb_e hf
      refine e_callVi (pc := 282) (st := [.int (7 : Int32), .ref b105]) 12 C (ct_X12_mostWanted y107) dX12_asks_282 (by decide) t104 g1964 g1966 g107 g157 g1967 hd_X12_mostWanted rfl ⟨Nat.le_of_ble_eq_true rfl, Nat.le_of_ble_eq_true rfl⟩ ⟨Nat.le_of_ble_eq_true rfl, Nat.le_of_ble_eq_true rfl⟩ rfl (Nat.le_of_ble_eq_true rfl) ?_
      refine e_i2l (pc := 285) C dX12_asks_285 ?_
      obtain ⟨q109, hf⟩ := ck_e hf
      obtain ⟨n110, tn110, in110⟩ := ix_e q109
      refine e_last (pc := 286) C dX12_asks_286 tn110 in110 ?_
      obtain ⟨h111, eh111, hf⟩ := nn_e hf
      refine e_hp eh111 ?_
      have uh111 : m_t h111 = m_t h106 := by rw [eh111]; exact rfl
      refine e_aload_n (pc := 287) C dX12_asks_287 0 rfl rfl ?_
      obtain ⟨t112, hf⟩ := ck_e hf
      refine e_getr (pc := 288) 12 50 C dX12_asks_288 (by decide) (by decide) g1451 rfl t112 ?_
      obtain ⟨b113, eb113, hf⟩ := ob_e hf
      refine e_rf eb113 ?_
      refine e_bipush (v := (8 : Int32)) (pc := 291) C dX12_asks_291 (by decide) ?_
      refine e_iload_n (pc := 293) C dX12_asks_293 2 rfl rfl ?_
      refine e_i2l (pc := 294) C dX12_asks_294 ?_
      obtain ⟨q114, hf⟩ := ck_e hf
      obtain ⟨n115, tn115, in115⟩ := ix_e q114
      refine e_last (pc := 295) C dX12_asks_295 tn115 in115 ?_
      obtain ⟨h116, eh116, hf⟩ := nn_e hf
      refine e_hp eh116 ?_
      have uh116 : m_t h116 = m_t h106 := by rw [eh116]; exact uh111
      refine e_aload_n (pc := 296) C dX12_asks_296 0 rfl rfl ?_
      refine e_getr (pc := 297) 12 50 C dX12_asks_297 (by decide) (by decide) g1451 rfl (e_mt (uh116.trans uh111.symm) t112) ?_
      obtain ⟨b117, eb117, hf⟩ := ob_e hf
      refine e_rf eb117 ?_
      refine e_bipush (v := (9 : Int32)) (pc := 300) C dX12_asks_300 (by decide) ?_
      refine e_iload_n (pc := 302) C dX12_asks_302 3 rfl rfl ?_
      refine e_i2l (pc := 303) C dX12_asks_303 ?_
      obtain ⟨q118, hf⟩ := ck_e hf
      obtain ⟨n119, tn119, in119⟩ := ix_e q118
      refine e_last (pc := 304) C dX12_asks_304 tn119 in119 ?_
      obtain ⟨h120, eh120, hf⟩ := nn_e hf
      refine e_hp eh120 ?_
      have uh120 : m_t h120 = m_t h106 := by rw [eh120]; exact uh116
      refine e_aload_n (pc := 305) C dX12_asks_305 0 rfl rfl ?_
      refine e_getr (pc := 306) 12 50 C dX12_asks_306 (by decide) (by decide) g1451 rfl (e_mt (uh120.trans uh111.symm) t112) ?_
      obtain ⟨b121, eb121, hf⟩ := ob_e hf
      refine e_rf eb121 ?_
      refine e_bipush (v := (10 : Int32)) (pc := 309) C dX12_asks_309 (by decide) ?_
      refine e_iload_n (pc := 311) C dX12_asks_311 1 rfl rfl ?_
      refine e_i2l (pc := 312) C dX12_asks_312 ?_
      obtain ⟨q122, hf⟩ := ck_e hf
      obtain ⟨n123, tn123, in123⟩ := ix_e q122
      refine e_last (pc := 313) C dX12_asks_313 tn123 in123 ?_
      obtain ⟨h124, eh124, hf⟩ := nn_e hf
      refine e_hp eh124 ?_
      have uh124 : m_t h124 = m_t h106 := by rw [eh124]; exact uh120
      refine e_aload_n (pc := 314) C dX12_asks_314 0 rfl rfl ?_
      refine e_getr (pc := 315) 12 50 C dX12_asks_315 (by decide) (by decide) g1451 rfl (e_mt (uh124.trans uh111.symm) t112) ?_
      obtain ⟨b125, eb125, hf⟩ := ob_e hf
      refine e_rf eb125 ?_
      refine e_bipush (v := (11 : Int32)) (pc := 318) C dX12_asks_318 (by decide) ?_
      refine e_iload (pc := 320) C dX12_asks_320 4 rfl ?_
      refine e_i2l (pc := 322) C dX12_asks_322 ?_
      obtain ⟨q126, hf⟩ := ck_e hf
      obtain ⟨n127, tn127, in127⟩ := ix_e q126
      refine e_last (pc := 323) C dX12_asks_323 tn127 in127 ?_
      obtain ⟨h128, eh128, hf⟩ := nn_e hf
      refine e_hp eh128 ?_
      have uh128 : m_t h128 = m_t h106 := by rw [eh128]; exact uh124
      refine e_aload_n (pc := 324) C dX12_asks_324 0 rfl rfl ?_
      refine e_getr (pc := 325) 12 50 C dX12_asks_325 (by decide) (by decide) g1451 rfl (e_mt (uh128.trans uh111.symm) t112) ?_
      obtain ⟨b129, eb129, hf⟩ := ob_e hf
      refine e_rf eb129 ?_
      refine e_bipush (v := (12 : Int32)) (pc := 328) C dX12_asks_328 (by decide) ?_
      refine e_aload_n (pc := 330) C dX12_asks_330 0 rfl rfl ?_
      refine e_getr (pc := 331) 12 1 C dX12_asks_331 (by decide) (by decide) g1402 rfl (e_mt (uh128.trans uh111.symm) t112) ?_
      obtain ⟨b130, eb130, hf⟩ := ob_e hf
      refine e_rf eb130 ?_
      refine e_bipush (v := (12 : Int32)) (pc := 334) C dX12_asks_334 (by decide) ?_
      obtain ⟨q131, hf⟩ := ck_e hf
      obtain ⟨n132, tn132, in132⟩ := ix_e q131
      refine e_iald (pc := 336) C dX12_asks_336 tn132 in132 ?_
      refine e_i2l (pc := 337) C dX12_asks_337 ?_
      obtain ⟨q133, hf⟩ := ck_e hf
      obtain ⟨n134, tn134, in134⟩ := ix_e q133
      refine e_last (pc := 338) C dX12_asks_338 tn134 in134 ?_
      obtain ⟨h135, eh135, hf⟩ := nn_e hf
      refine e_hp eh135 ?_
      have uh135 : m_t h135 = m_t h106 := by rw [eh135]; exact uh128
      obtain rfl := so_e hf
      exact e_vret (pc := 339) C hr dX12_asks_339 (Nat.le_of_ble_eq_true rfl) (Nat.le_of_ble_eq_true rfl)
    rcases it_e hf with ⟨c136, hf⟩ | ⟨c136, hf⟩
    · refine e_icmp_ne (pc := 244) (tgt := 253) C dX12_asks_244 (by decide) (fun q => absurd c136 q) (fun _ => ?_)
      refine e_ldc2 (pc := 247) C dX12_asks_247 g1861 ?_
      refine e_goto (pc := 250) (tgt := 260) C dX12_asks_250 (by decide) ?_
      refine e_lv (lv2 := [(0, .ref v0), (1, .int v1_151), (2, .int v2_151), (3, .int v3_151), (4, .int v4_151)]) [0, 1, 2, 3, 4] rfl ?_
      exact W_260 (-1 : Int64) h90 hf
    · refine e_icmp_ne (pc := 244) (tgt := 253) C dX12_asks_244 (by decide) (fun _ => ?_) (fun q => absurd q c136)
      refine e_aload_n (pc := 253) C dX12_asks_253 0 rfl rfl ?_
      refine e_iload (pc := 254) C dX12_asks_254 5 rfl ?_
      obtain ⟨r139, h137, y138, hf⟩ := cb_e hf
      refine e_callVi (pc := 256) (st := [.int (5 : Int32), .ref b92]) 12 C (ct_X12_wantOf y138) dX12_asks_256 (by decide) t91 g1870 g1872 g91 g157 g1873 hd_X12_wantOf rfl ⟨Nat.le_of_ble_eq_true rfl, Nat.le_of_ble_eq_true rfl⟩ ⟨Nat.le_of_ble_eq_true rfl, Nat.le_of_ble_eq_true rfl⟩ rfl (Nat.le_of_ble_eq_true rfl) ?_
      refine e_i2l (pc := 259) C dX12_asks_259 ?_
      refine e_lv (lv2 := [(0, .ref v0), (1, .int v1_151), (2, .int v2_151), (3, .int v3_151), (4, .int v4_151)]) [0, 1, 2, 3, 4] rfl ?_
      exact W_260 r139.toInt64 h137 hf
  rcases it_e hf with ⟨c140, hf⟩ | ⟨c140, hf⟩
  · refine e_if_eq (pc := 216) (tgt := 223) C dX12_asks_216 (by decide) (fun _ => ?_) (fun q => absurd c140 q)
    refine e_lconst (v := (0 : Int64)) (pc := 223) C dX12_asks_223 (by decide) ?_
    refine e_lv (lv2 := [(0, .ref v0), (1, .int v1_151), (2, .int v2_151), (3, .int v3_151), (4, .int v4_151), (5, .int r50)]) [1, 2, 3, 4, 5, 0] rfl ?_
    exact W_224 (0 : Int64) hf
  · refine e_if_eq (pc := 216) (tgt := 223) C dX12_asks_216 (by decide) (fun q => absurd q c140) (fun _ => ?_)
    refine e_lconst (v := (1 : Int64)) (pc := 219) C dX12_asks_219 (by decide) ?_
    refine e_goto (pc := 220) (tgt := 224) C dX12_asks_220 (by decide) ?_
    refine e_lv (lv2 := [(0, .ref v0), (1, .int v1_151), (2, .int v2_151), (3, .int v3_151), (4, .int v4_151), (5, .int r50)]) [1, 2, 3, 4, 5, 0] rfl ?_
    exact W_224 (1 : Int64) hf
theorem dX12_warmer_0 : decode cX12_warmer 0 = .ok (.iload_n 0, 1) := by decide +kernel
theorem dX12_warmer_1 : decode cX12_warmer 1 = .ok (.iconst 2, 1) := by decide +kernel
theorem dX12_warmer_2 : decode cX12_warmer 2 = .ok (.iload_n 1, 1) := by decide +kernel
theorem dX12_warmer_3 : decode cX12_warmer 3 = .ok (.imul, 1) := by decide +kernel
theorem dX12_warmer_4 : decode cX12_warmer 4 = .ok (.iadd, 1) := by decide +kernel
theorem dX12_warmer_5 : decode cX12_warmer 5 = .ok (.iload_n 2, 1) := by decide +kernel
theorem dX12_warmer_6 : decode cX12_warmer 6 = .ok (.isub, 1) := by decide +kernel
theorem dX12_warmer_7 : decode cX12_warmer 7 = .ok (.iconst 1, 1) := by decide +kernel
theorem dX12_warmer_8 : decode cX12_warmer 8 = .ok (.isub, 1) := by decide +kernel
theorem dX12_warmer_9 : decode cX12_warmer 9 = .ok (.iload_n 3, 1) := by decide +kernel
theorem dX12_warmer_10 : decode cX12_warmer 10 = .ok (.isub, 1) := by decide +kernel
theorem dX12_warmer_11 : decode cX12_warmer 11 = .ok (.i2l, 1) := by decide +kernel
theorem dX12_warmer_12 : decode cX12_warmer 12 = .ok (.bipush 60, 2) := by decide +kernel
theorem dX12_warmer_14 : decode cX12_warmer 14 = .ok (.invokestatic 418, 3) := by decide +kernel
theorem dX12_warmer_17 : decode cX12_warmer 17 = .ok (.ireturn, 1) := by decide +kernel
def f_X12_warmer (G : GG) (v0 : Int32) (v1 : Int32) (v2 : Int32) (v3 : Int32) (h : AH) : Option (Int32 × AH) :=
cb (f_X12_held G (((((v0 + ((2 : Int32) * v1)) - v2) - (1 : Int32)) - v3).toInt64) (60 : Int32) h) fun r3 h1 =>
some (r3, h1)
set_option maxHeartbeats 4000000 in
set_option maxRecDepth 100000 in
theorem ct_X12_warmer {G : GG} {l : Launch} {v0 : Int32} {v1 : Int32} {v2 : Int32} {v3 : Int32} {h : AH} {y : Int32 × AH} (hf : f_X12_warmer G v0 v1 v2 v3 h = some y) : Ct G l yX12_warmer cX12_warmer 4 (some .int) 1 22 0 0 [.int v0, .int v1, .int v2, .int v3] h (some (.int y.1), y.2) := by
  refine ct_of (by decide) (Nat.le_of_ble_eq_true rfl) ?_
  intro p e s m args below meth c C hm hr hin
  have C : Cx G cX12_warmer RX12 p s m args meth c := C
  refine e_lv (lv2 := [(0, .int v0), (1, .int v1), (2, .int v2), (3, .int v3)]) [0, 1, 2, 3] rfl ?_
  unfold f_X12_warmer at hf
  refine e_iload_n (pc := 0) C dX12_warmer_0 0 rfl rfl ?_
  refine e_iconst (v := (2 : Int32)) (pc := 1) C dX12_warmer_1 (by decide) ?_
  refine e_iload_n (pc := 2) C dX12_warmer_2 1 rfl rfl ?_
  refine e_imul (pc := 3) C dX12_warmer_3 ?_
  refine e_iadd (pc := 4) C dX12_warmer_4 ?_
  refine e_iload_n (pc := 5) C dX12_warmer_5 2 rfl rfl ?_
  refine e_isub (pc := 6) C dX12_warmer_6 ?_
  refine e_iconst (v := (1 : Int32)) (pc := 7) C dX12_warmer_7 (by decide) ?_
  refine e_isub (pc := 8) C dX12_warmer_8 ?_
  refine e_iload_n (pc := 9) C dX12_warmer_9 3 rfl rfl ?_
  refine e_isub (pc := 10) C dX12_warmer_10 ?_
  refine e_i2l (pc := 11) C dX12_warmer_11 ?_
  refine e_bipush (v := (60 : Int32)) (pc := 12) C dX12_warmer_12 (by decide) ?_
  obtain ⟨r3, h1, y2, hf⟩ := cb_e hf
  refine e_callSi (pc := 14) (st := []) C (ct_X12_held y2) dX12_warmer_14 g1982 g1983 g157 g1984 hd_X12_held rfl ⟨Nat.le_of_ble_eq_true rfl, Nat.le_of_ble_eq_true rfl⟩ ⟨Nat.le_of_ble_eq_true rfl, Nat.le_of_ble_eq_true rfl⟩ rfl (Nat.le_of_ble_eq_true rfl) ?_
  obtain rfl := so_e hf
  exact e_iret (pc := 17) C hr dX12_warmer_17 (Nat.le_of_ble_eq_true rfl) (Nat.le_of_ble_eq_true rfl)
theorem dX12_knobMoves_0 : decode cX12_knobMoves 0 = .ok (.bipush 6, 2) := by decide +kernel
theorem dX12_knobMoves_2 : decode cX12_knobMoves 2 = .ok (.istore_n 1, 1) := by decide +kernel
theorem dX12_knobMoves_3 : decode cX12_knobMoves 3 = .ok (.iload_n 1, 1) := by decide +kernel
theorem dX12_knobMoves_4 : decode cX12_knobMoves 4 = .ok (.ifCond .le 23, 3) := by decide +kernel
theorem dX12_knobMoves_7 : decode cX12_knobMoves 7 = .ok (.aload_n 0, 1) := by decide +kernel
theorem dX12_knobMoves_8 : decode cX12_knobMoves 8 = .ok (.getfield 13, 3) := by decide +kernel
theorem dX12_knobMoves_11 : decode cX12_knobMoves 11 = .ok (.iload_n 1, 1) := by decide +kernel
theorem dX12_knobMoves_12 : decode cX12_knobMoves 12 = .ok (.aload_n 0, 1) := by decide +kernel
theorem dX12_knobMoves_13 : decode cX12_knobMoves 13 = .ok (.getfield 13, 3) := by decide +kernel
theorem dX12_knobMoves_16 : decode cX12_knobMoves 16 = .ok (.iload_n 1, 1) := by decide +kernel
theorem dX12_knobMoves_17 : decode cX12_knobMoves 17 = .ok (.iconst 1, 1) := by decide +kernel
theorem dX12_knobMoves_18 : decode cX12_knobMoves 18 = .ok (.isub, 1) := by decide +kernel
theorem dX12_knobMoves_19 : decode cX12_knobMoves 19 = .ok (.iaload, 1) := by decide +kernel
theorem dX12_knobMoves_20 : decode cX12_knobMoves 20 = .ok (.iastore, 1) := by decide +kernel
theorem dX12_knobMoves_21 : decode cX12_knobMoves 21 = .ok (.iinc 1 (-1), 3) := by decide +kernel
theorem dX12_knobMoves_24 : decode cX12_knobMoves 24 = .ok (.goto (-21), 3) := by decide +kernel
theorem dX12_knobMoves_27 : decode cX12_knobMoves 27 = .ok (.return_, 1) := by decide +kernel
def F_X12_knobMoves_3 (G : GG) (v0 : Nat) (self_3 : Int32 → AH → Option (AH)) (v1 : Int32) (h : AH) : Option (AH) :=
if v1 ≤ 0 then (some h) else
ck (m_t h v0 = .inl 12) <|
ob (m_r h v0 2) fun b3 =>
ob (m_r h v0 2) fun b4 =>
ck (ixb h b4 .int (v1 - (1 : Int32)) = true) <|
ck (ixb h b3 .int v1 = true) <|
nn (m_si h b3 v1.toNatClampNeg (m_i h b4 (v1 - (1 : Int32)).toNatClampNeg)) fun h9 =>
nn (v1 + (-1 : Int32)) fun x10 =>
self_3 x10 h9
def f_X12_knobMoves (G : GG) (v0 : Nat) (h : AH) : Option (AH) :=
lq1 (F_X12_knobMoves_3 G v0 ) bN (6 : Int32) h
set_option maxHeartbeats 4000000 in
set_option maxRecDepth 100000 in
theorem el_X12_knobMoves_3 {G : GG} {p : Program} {l : Launch} {e : Env} {s : State} {m : MethodId} {args : Array Value} {below : List Frame} {meth : Method} {c : Code} {y : AH} (C : Cx G cX12_knobMoves RX12 p s m args meth c) (hm : c.maxLocals = 2) (hr : meth.sig.returnType = none) (hin : meth.name = yX12_knobMoves.name) {v0 : Nat}  :
    ∀ (n : Nat) (v1 : Int32) (h : AH), lq1 (F_X12_knobMoves_3 G v0) n v1 h = some y → EE G p l e ({ frames := 0, cells := 0, slots := 0, locals := 0 } : Room) s m args below meth c (none, y) 0 0 3 [(0, .ref v0), (1, .int v1)] [] h 0 0 := by
  intro n
  induction n with
  | zero => intro v1 h hf; exact (no_e hf).elim
  | succ n ih_3 =>
    intro v1 h hf
    have hf : F_X12_knobMoves_3 G v0 (lq1 (F_X12_knobMoves_3 G v0) n) v1 h = some y := hf
    generalize lq1 (F_X12_knobMoves_3 G v0) n = self_3 at hf ih_3
    unfold F_X12_knobMoves_3 at hf
    refine e_iload_n (pc := 3) C dX12_knobMoves_3 1 rfl rfl ?_
    rcases it_e hf with ⟨c1, hf⟩ | ⟨c1, hf⟩
    · refine e_if_le (pc := 4) (tgt := 27) C dX12_knobMoves_4 (by decide) (fun _ => ?_) (fun q => absurd c1 q)
      obtain rfl := so_e hf
      exact e_vret (pc := 27) C hr dX12_knobMoves_27 (Nat.le_of_ble_eq_true rfl) (Nat.le_of_ble_eq_true rfl)
    · refine e_if_le (pc := 4) (tgt := 27) C dX12_knobMoves_4 (by decide) (fun q => absurd q c1) (fun _ => ?_)
      refine e_aload_n (pc := 7) C dX12_knobMoves_7 0 rfl rfl ?_
      obtain ⟨t2, hf⟩ := ck_e hf
      refine e_getr (pc := 8) 12 2 C dX12_knobMoves_8 (by decide) (by decide) g1403 rfl t2 ?_
      obtain ⟨b3, eb3, hf⟩ := ob_e hf
      refine e_rf eb3 ?_
      refine e_iload_n (pc := 11) C dX12_knobMoves_11 1 rfl rfl ?_
      refine e_aload_n (pc := 12) C dX12_knobMoves_12 0 rfl rfl ?_
      refine e_getr (pc := 13) 12 2 C dX12_knobMoves_13 (by decide) (by decide) g1403 rfl t2 ?_
      obtain ⟨b4, eb4, hf⟩ := ob_e hf
      refine e_rf eb4 ?_
      refine e_iload_n (pc := 16) C dX12_knobMoves_16 1 rfl rfl ?_
      refine e_iconst (v := (1 : Int32)) (pc := 17) C dX12_knobMoves_17 (by decide) ?_
      refine e_isub (pc := 18) C dX12_knobMoves_18 ?_
      obtain ⟨q5, hf⟩ := ck_e hf
      obtain ⟨n6, tn6, in6⟩ := ix_e q5
      refine e_iald (pc := 19) C dX12_knobMoves_19 tn6 in6 ?_
      obtain ⟨q7, hf⟩ := ck_e hf
      obtain ⟨n8, tn8, in8⟩ := ix_e q7
      refine e_iast (pc := 20) C dX12_knobMoves_20 tn8 in8 ?_
      obtain ⟨h9, eh9, hf⟩ := nn_e hf
      refine e_hp eh9 ?_
      have uh9 : m_t h9 = m_t h := by rw [eh9]; exact rfl
      obtain ⟨x10, ex10, hf⟩ := nn_e hf
      refine e_iinc (pc := 21) (v := x10) (lv2 := [(1, .int x10), (0, .ref v0)]) C hm dX12_knobMoves_21 1 rfl (by rw [ex10]; rfl) (by decide) rfl ?_
      refine e_goto (pc := 24) (tgt := 3) C dX12_knobMoves_24 (by decide) ?_
      refine e_lv (lv2 := [(0, .ref v0), (1, .int x10)]) [1, 0] rfl ?_
      exact ih_3 x10 h9 hf
set_option maxHeartbeats 4000000 in
set_option maxRecDepth 100000 in
theorem ct_X12_knobMoves {G : GG} {l : Launch} {v0 : Nat} {h : AH} {y : AH} (hf : f_X12_knobMoves G v0 h = some y) : Ct G l yX12_knobMoves cX12_knobMoves 2 none 0 0 0 0 [.ref v0] h (none, y) := by
  refine ct_of (by decide) (Nat.le_of_ble_eq_true rfl) ?_
  intro p e s m args below meth c C hm hr hin
  have C : Cx G cX12_knobMoves RX12 p s m args meth c := C
  refine e_lv (lv2 := [(0, .ref v0)]) [0] rfl ?_
  unfold f_X12_knobMoves at hf
  refine e_bipush (v := (6 : Int32)) (pc := 0) C dX12_knobMoves_0 (by decide) ?_
  refine e_istore_n (pc := 2) (lv2 := [(1, .int (6 : Int32)), (0, .ref v0)]) C hm dX12_knobMoves_2 rfl (by decide) rfl ?_
  refine e_lv (lv2 := [(0, .ref v0), (1, .int (6 : Int32))]) [1, 0] rfl ?_
  exact el_X12_knobMoves_3 C hm hr hin bN (6 : Int32) h hf
theorem dX12_rolls_0 : decode cX12_rolls 0 = .ok (.iconst 0, 1) := by decide +kernel
theorem dX12_rolls_1 : decode cX12_rolls 1 = .ok (.istore_n 1, 1) := by decide +kernel
theorem dX12_rolls_2 : decode cX12_rolls 2 = .ok (.iconst 0, 1) := by decide +kernel
theorem dX12_rolls_3 : decode cX12_rolls 3 = .ok (.istore_n 2, 1) := by decide +kernel
theorem dX12_rolls_4 : decode cX12_rolls 4 = .ok (.iload_n 2, 1) := by decide +kernel
theorem dX12_rolls_5 : decode cX12_rolls 5 = .ok (.aload_n 0, 1) := by decide +kernel
theorem dX12_rolls_6 : decode cX12_rolls 6 = .ok (.getfield 9, 3) := by decide +kernel
theorem dX12_rolls_9 : decode cX12_rolls 9 = .ok (.bipush 6, 2) := by decide +kernel
theorem dX12_rolls_11 : decode cX12_rolls 11 = .ok (.iaload, 1) := by decide +kernel
theorem dX12_rolls_12 : decode cX12_rolls 12 = .ok (.if_icmp .ge 101, 3) := by decide +kernel
theorem dX12_rolls_15 : decode cX12_rolls 15 = .ok (.aload_n 0, 1) := by decide +kernel
theorem dX12_rolls_16 : decode cX12_rolls 16 = .ok (.iload_n 2, 1) := by decide +kernel
theorem dX12_rolls_17 : decode cX12_rolls 17 = .ok (.invokevirtual 449, 3) := by decide +kernel
theorem dX12_rolls_20 : decode cX12_rolls 20 = .ok (.ifCond .eq 87, 3) := by decide +kernel
theorem dX12_rolls_23 : decode cX12_rolls 23 = .ok (.aload_n 0, 1) := by decide +kernel
theorem dX12_rolls_24 : decode cX12_rolls 24 = .ok (.iload_n 2, 1) := by decide +kernel
theorem dX12_rolls_25 : decode cX12_rolls 25 = .ok (.aload_n 0, 1) := by decide +kernel
theorem dX12_rolls_26 : decode cX12_rolls 26 = .ok (.getfield 9, 3) := by decide +kernel
theorem dX12_rolls_29 : decode cX12_rolls 29 = .ok (.bipush 13, 2) := by decide +kernel
theorem dX12_rolls_31 : decode cX12_rolls 31 = .ok (.iaload, 1) := by decide +kernel
theorem dX12_rolls_32 : decode cX12_rolls 32 = .ok (.invokevirtual 458, 3) := by decide +kernel
theorem dX12_rolls_35 : decode cX12_rolls 35 = .ok (.istore_n 3, 1) := by decide +kernel
theorem dX12_rolls_36 : decode cX12_rolls 36 = .ok (.aload_n 0, 1) := by decide +kernel
theorem dX12_rolls_37 : decode cX12_rolls 37 = .ok (.getfield 43, 3) := by decide +kernel
theorem dX12_rolls_40 : decode cX12_rolls 40 = .ok (.iload_n 2, 1) := by decide +kernel
theorem dX12_rolls_41 : decode cX12_rolls 41 = .ok (.dup2, 1) := by decide +kernel
theorem dX12_rolls_42 : decode cX12_rolls 42 = .ok (.iaload, 1) := by decide +kernel
theorem dX12_rolls_43 : decode cX12_rolls 43 = .ok (.iload_n 3, 1) := by decide +kernel
theorem dX12_rolls_44 : decode cX12_rolls 44 = .ok (.iadd, 1) := by decide +kernel
theorem dX12_rolls_45 : decode cX12_rolls 45 = .ok (.iastore, 1) := by decide +kernel
theorem dX12_rolls_46 : decode cX12_rolls 46 = .ok (.iload_n 1, 1) := by decide +kernel
theorem dX12_rolls_47 : decode cX12_rolls 47 = .ok (.iload_n 3, 1) := by decide +kernel
theorem dX12_rolls_48 : decode cX12_rolls 48 = .ok (.iadd, 1) := by decide +kernel
theorem dX12_rolls_49 : decode cX12_rolls 49 = .ok (.istore_n 1, 1) := by decide +kernel
theorem dX12_rolls_50 : decode cX12_rolls 50 = .ok (.aload_n 0, 1) := by decide +kernel
theorem dX12_rolls_51 : decode cX12_rolls 51 = .ok (.getfield 40, 3) := by decide +kernel
theorem dX12_rolls_54 : decode cX12_rolls 54 = .ok (.iload_n 2, 1) := by decide +kernel
theorem dX12_rolls_55 : decode cX12_rolls 55 = .ok (.iaload, 1) := by decide +kernel
theorem dX12_rolls_56 : decode cX12_rolls 56 = .ok (.ifCond .le 14, 3) := by decide +kernel
theorem dX12_rolls_59 : decode cX12_rolls 59 = .ok (.aload_n 0, 1) := by decide +kernel
theorem dX12_rolls_60 : decode cX12_rolls 60 = .ok (.getfield 40, 3) := by decide +kernel
theorem dX12_rolls_63 : decode cX12_rolls 63 = .ok (.iload_n 2, 1) := by decide +kernel
theorem dX12_rolls_64 : decode cX12_rolls 64 = .ok (.iaload, 1) := by decide +kernel
theorem dX12_rolls_65 : decode cX12_rolls 65 = .ok (.iconst 1, 1) := by decide +kernel
theorem dX12_rolls_66 : decode cX12_rolls 66 = .ok (.isub, 1) := by decide +kernel
theorem dX12_rolls_67 : decode cX12_rolls 67 = .ok (.goto 4, 3) := by decide +kernel
theorem dX12_rolls_70 : decode cX12_rolls 70 = .ok (.iconst 0, 1) := by decide +kernel
theorem dX12_rolls_71 : decode cX12_rolls 71 = .ok (.istore 4, 2) := by decide +kernel
theorem dX12_rolls_73 : decode cX12_rolls 73 = .ok (.aload_n 0, 1) := by decide +kernel
theorem dX12_rolls_74 : decode cX12_rolls 74 = .ok (.getfield 40, 3) := by decide +kernel
theorem dX12_rolls_77 : decode cX12_rolls 77 = .ok (.iload_n 2, 1) := by decide +kernel
theorem dX12_rolls_78 : decode cX12_rolls 78 = .ok (.aload_n 0, 1) := by decide +kernel
theorem dX12_rolls_79 : decode cX12_rolls 79 = .ok (.iload_n 2, 1) := by decide +kernel
theorem dX12_rolls_80 : decode cX12_rolls 80 = .ok (.invokevirtual 455, 3) := by decide +kernel
theorem dX12_rolls_83 : decode cX12_rolls 83 = .ok (.aload_n 0, 1) := by decide +kernel
theorem dX12_rolls_84 : decode cX12_rolls 84 = .ok (.getfield 9, 3) := by decide +kernel
theorem dX12_rolls_87 : decode cX12_rolls 87 = .ok (.bipush 13, 2) := by decide +kernel
theorem dX12_rolls_89 : decode cX12_rolls 89 = .ok (.iaload, 1) := by decide +kernel
theorem dX12_rolls_90 : decode cX12_rolls 90 = .ok (.if_icmp .ne 8, 3) := by decide +kernel
theorem dX12_rolls_93 : decode cX12_rolls 93 = .ok (.iload 4, 2) := by decide +kernel
theorem dX12_rolls_95 : decode cX12_rolls 95 = .ok (.goto 11, 3) := by decide +kernel
theorem dX12_rolls_98 : decode cX12_rolls 98 = .ok (.aload_n 0, 1) := by decide +kernel
theorem dX12_rolls_99 : decode cX12_rolls 99 = .ok (.getfield 40, 3) := by decide +kernel
theorem dX12_rolls_102 : decode cX12_rolls 102 = .ok (.iload_n 2, 1) := by decide +kernel
theorem dX12_rolls_103 : decode cX12_rolls 103 = .ok (.iaload, 1) := by decide +kernel
theorem dX12_rolls_104 : decode cX12_rolls 104 = .ok (.iconst 1, 1) := by decide +kernel
theorem dX12_rolls_105 : decode cX12_rolls 105 = .ok (.iadd, 1) := by decide +kernel
theorem dX12_rolls_106 : decode cX12_rolls 106 = .ok (.iastore, 1) := by decide +kernel
theorem dX12_rolls_107 : decode cX12_rolls 107 = .ok (.iinc 2 1, 3) := by decide +kernel
theorem dX12_rolls_110 : decode cX12_rolls 110 = .ok (.goto (-106), 3) := by decide +kernel
theorem dX12_rolls_113 : decode cX12_rolls 113 = .ok (.aload_n 0, 1) := by decide +kernel
theorem dX12_rolls_114 : decode cX12_rolls 114 = .ok (.getfield 13, 3) := by decide +kernel
theorem dX12_rolls_117 : decode cX12_rolls 117 = .ok (.iconst 0, 1) := by decide +kernel
theorem dX12_rolls_118 : decode cX12_rolls 118 = .ok (.aload_n 0, 1) := by decide +kernel
theorem dX12_rolls_119 : decode cX12_rolls 119 = .ok (.getfield 9, 3) := by decide +kernel
theorem dX12_rolls_122 : decode cX12_rolls 122 = .ok (.bipush 12, 2) := by decide +kernel
theorem dX12_rolls_124 : decode cX12_rolls 124 = .ok (.iaload, 1) := by decide +kernel
theorem dX12_rolls_125 : decode cX12_rolls 125 = .ok (.iastore, 1) := by decide +kernel
theorem dX12_rolls_126 : decode cX12_rolls 126 = .ok (.aload_n 0, 1) := by decide +kernel
theorem dX12_rolls_127 : decode cX12_rolls 127 = .ok (.getfield 9, 3) := by decide +kernel
theorem dX12_rolls_130 : decode cX12_rolls 130 = .ok (.bipush 11, 2) := by decide +kernel
theorem dX12_rolls_132 : decode cX12_rolls 132 = .ok (.aload_n 0, 1) := by decide +kernel
theorem dX12_rolls_133 : decode cX12_rolls 133 = .ok (.getfield 9, 3) := by decide +kernel
theorem dX12_rolls_136 : decode cX12_rolls 136 = .ok (.bipush 11, 2) := by decide +kernel
theorem dX12_rolls_138 : decode cX12_rolls 138 = .ok (.iaload, 1) := by decide +kernel
theorem dX12_rolls_139 : decode cX12_rolls 139 = .ok (.aload_n 0, 1) := by decide +kernel
theorem dX12_rolls_140 : decode cX12_rolls 140 = .ok (.getfield 13, 3) := by decide +kernel
theorem dX12_rolls_143 : decode cX12_rolls 143 = .ok (.aload_n 0, 1) := by decide +kernel
theorem dX12_rolls_144 : decode cX12_rolls 144 = .ok (.getfield 9, 3) := by decide +kernel
theorem dX12_rolls_147 : decode cX12_rolls 147 = .ok (.iconst 3, 1) := by decide +kernel
theorem dX12_rolls_148 : decode cX12_rolls 148 = .ok (.iaload, 1) := by decide +kernel
theorem dX12_rolls_149 : decode cX12_rolls 149 = .ok (.iaload, 1) := by decide +kernel
theorem dX12_rolls_150 : decode cX12_rolls 150 = .ok (.aload_n 0, 1) := by decide +kernel
theorem dX12_rolls_151 : decode cX12_rolls 151 = .ok (.getfield 9, 3) := by decide +kernel
theorem dX12_rolls_154 : decode cX12_rolls 154 = .ok (.bipush 13, 2) := by decide +kernel
theorem dX12_rolls_156 : decode cX12_rolls 156 = .ok (.iaload, 1) := by decide +kernel
theorem dX12_rolls_157 : decode cX12_rolls 157 = .ok (.aload_n 0, 1) := by decide +kernel
theorem dX12_rolls_158 : decode cX12_rolls 158 = .ok (.aload_n 0, 1) := by decide +kernel
theorem dX12_rolls_159 : decode cX12_rolls 159 = .ok (.getfield 9, 3) := by decide +kernel
theorem dX12_rolls_162 : decode cX12_rolls 162 = .ok (.bipush 10, 2) := by decide +kernel
theorem dX12_rolls_164 : decode cX12_rolls 164 = .ok (.iaload, 1) := by decide +kernel
theorem dX12_rolls_165 : decode cX12_rolls 165 = .ok (.invokevirtual 476, 3) := by decide +kernel
theorem dX12_rolls_168 : decode cX12_rolls 168 = .ok (.invokestatic 494, 3) := by decide +kernel
theorem dX12_rolls_171 : decode cX12_rolls 171 = .ok (.iastore, 1) := by decide +kernel
theorem dX12_rolls_172 : decode cX12_rolls 172 = .ok (.aload_n 0, 1) := by decide +kernel
theorem dX12_rolls_173 : decode cX12_rolls 173 = .ok (.invokevirtual 498, 3) := by decide +kernel
theorem dX12_rolls_176 : decode cX12_rolls 176 = .ok (.aload_n 0, 1) := by decide +kernel
theorem dX12_rolls_177 : decode cX12_rolls 177 = .ok (.getfield 9, 3) := by decide +kernel
theorem dX12_rolls_180 : decode cX12_rolls 180 = .ok (.bipush 10, 2) := by decide +kernel
theorem dX12_rolls_182 : decode cX12_rolls 182 = .ok (.dup2, 1) := by decide +kernel
theorem dX12_rolls_183 : decode cX12_rolls 183 = .ok (.iaload, 1) := by decide +kernel
theorem dX12_rolls_184 : decode cX12_rolls 184 = .ok (.iconst 1, 1) := by decide +kernel
theorem dX12_rolls_185 : decode cX12_rolls 185 = .ok (.iadd, 1) := by decide +kernel
theorem dX12_rolls_186 : decode cX12_rolls 186 = .ok (.iastore, 1) := by decide +kernel
theorem dX12_rolls_187 : decode cX12_rolls 187 = .ok (.aload_n 0, 1) := by decide +kernel
theorem dX12_rolls_188 : decode cX12_rolls 188 = .ok (.invokevirtual 501, 3) := by decide +kernel
theorem dX12_rolls_191 : decode cX12_rolls 191 = .ok (.aload_n 0, 1) := by decide +kernel
theorem dX12_rolls_192 : decode cX12_rolls 192 = .ok (.invokevirtual 390, 3) := by decide +kernel
theorem dX12_rolls_195 : decode cX12_rolls 195 = .ok (.iload_n 1, 1) := by decide +kernel
theorem dX12_rolls_196 : decode cX12_rolls 196 = .ok (.ireturn, 1) := by decide +kernel
def F_X12_rolls_4 (G : GG) (v0 : Nat) (K_113 : Int32 → AH → Option (Int32 × AH)) (self_4 : Int32 → Int32 → AH → Option (Int32 × AH)) (v1 : Int32) (v2 : Int32) (h : AH) : Option (Int32 × AH) :=
ck (m_t h v0 = .inl 12) <|
ob (m_r h v0 1) fun b2 =>
ck (ixb h b2 .int (6 : Int32) = true) <|
if (m_i h b2 (6 : Int32).toNatClampNeg) ≤ v2 then (K_113 v1 h) else
cb (f_X12_rides G v0 v2 h) fun r8 h6 =>
nn (fun (v1_107 : Int32) (h_107 : AH) => (nn (v2 + (1 : Int32)) fun x9 =>
self_4 v1_107 x9 h_107)) fun j_107 =>
if r8 = 0 then (j_107 v1 h6) else
ck (m_t h6 v0 = .inl 12) <|
ob (m_r h6 v0 1) fun b12 =>
ck (ixb h6 b12 .int (13 : Int32) = true) <|
cb (f_X12_suffersBy G v0 v2 (m_i h6 b12 (13 : Int32).toNatClampNeg) h6) fun r17 h15 =>
ck (m_t h15 v0 = .inl 12) <|
ob (m_r h15 v0 12) fun b19 =>
ck (ixb h15 b19 .int v2 = true) <|
ck (ixb h15 b19 .int v2 = true) <|
nn (m_si h15 b19 v2.toNatClampNeg ((m_i h15 b19 v2.toNatClampNeg) + r17)) fun h24 =>
nn (v1 + r17) fun x25 =>
ob (m_r h24 v0 11) fun b26 =>
ck (ixb h24 b26 .int v2 = true) <|
nn (fun (s0_71 : Int32) => (ob (m_r h24 v0 11) fun b29 =>
cb (f_X12_wantOf G v0 v2 h24) fun r32 h30 =>
ck (m_t h30 v0 = .inl 12) <|
ob (m_r h30 v0 1) fun b34 =>
ck (ixb h30 b34 .int (13 : Int32) = true) <|
nn (fun (s0_106 : Int32) => (ck (ixb h30 b29 .int v2 = true) <|
nn (m_si h30 b29 v2.toNatClampNeg s0_106) fun h39 =>
j_107 x25 h39)) fun j_106 =>
if r32 = (m_i h30 b34 (13 : Int32).toNatClampNeg) then (j_106 s0_71) else
ob (m_r h30 v0 11) fun b41 =>
ck (ixb h30 b41 .int v2 = true) <|
j_106 ((m_i h30 b41 v2.toNatClampNeg) + (1 : Int32)))) fun j_71 =>
if (m_i h24 b26 v2.toNatClampNeg) ≤ 0 then (j_71 (0 : Int32)) else
ob (m_r h24 v0 11) fun b45 =>
ck (ixb h24 b45 .int v2 = true) <|
j_71 ((m_i h24 b45 v2.toNatClampNeg) - (1 : Int32))
def f_X12_rolls (G : GG) (v0 : Nat) (h : AH) : Option (Int32 × AH) :=
lq2 (F_X12_rolls_4 G v0 (fun (v1_113 : Int32) (h_113 : AH) => (ck (m_t h_113 v0 = .inl 12) <|
ob (m_r h_113 v0 2) fun b49 =>
ob (m_r h_113 v0 1) fun b50 =>
ck (ixb h_113 b50 .int (12 : Int32) = true) <|
ck (ixb h_113 b49 .int (0 : Int32) = true) <|
nn (m_si h_113 b49 (0 : Int32).toNatClampNeg (m_i h_113 b50 (12 : Int32).toNatClampNeg)) fun h55 =>
ob (m_r h55 v0 1) fun b56 =>
ob (m_r h55 v0 1) fun b57 =>
ck (ixb h55 b57 .int (11 : Int32) = true) <|
ob (m_r h55 v0 2) fun b60 =>
ob (m_r h55 v0 1) fun b61 =>
ck (ixb h55 b61 .int (3 : Int32) = true) <|
ck (ixb h55 b60 .int (m_i h55 b61 (3 : Int32).toNatClampNeg) = true) <|
ob (m_r h55 v0 1) fun b66 =>
ck (ixb h55 b66 .int (13 : Int32) = true) <|
ob (m_r h55 v0 1) fun b69 =>
ck (ixb h55 b69 .int (10 : Int32) = true) <|
cb (f_X12_coldOf G v0 (m_i h55 b69 (10 : Int32).toNatClampNeg) h55) fun r74 h72 =>
cb (f_X12_warmer G (m_i h55 b57 (11 : Int32).toNatClampNeg) (m_i h55 b60 (m_i h55 b61 (3 : Int32).toNatClampNeg).toNatClampNeg) (m_i h55 b66 (13 : Int32).toNatClampNeg) r74 h72) fun r77 h75 =>
ck (ixb h75 b56 .int (11 : Int32) = true) <|
nn (m_si h75 b56 (11 : Int32).toNatClampNeg r77) fun h80 =>
ck (m_t h80 v0 = .inl 12) <|
ob (f_X12_knobMoves G v0 h80) fun h82 =>
ck (m_t h82 v0 = .inl 12) <|
ob (m_r h82 v0 1) fun b85 =>
ck (ixb h82 b85 .int (10 : Int32) = true) <|
ck (ixb h82 b85 .int (10 : Int32) = true) <|
nn (m_si h82 b85 (10 : Int32).toNatClampNeg ((m_i h82 b85 (10 : Int32).toNatClampNeg) + (1 : Int32))) fun h90 =>
ob (f_X12_getOut G v0 h90) fun h91 =>
ck (m_t h91 v0 = .inl 12) <|
ob (f_X12_getIn G v0 h91) fun h94 =>
some (v1_113, h94)))) bN (0 : Int32) (0 : Int32) h
set_option maxHeartbeats 4000000 in
set_option maxRecDepth 100000 in
theorem el_X12_rolls_4 {G : GG} {p : Program} {l : Launch} {e : Env} {s : State} {m : MethodId} {args : Array Value} {below : List Frame} {meth : Method} {c : Code} {y : Int32 × AH} (C : Cx G cX12_rolls RX12 p s m args meth c) (hm : c.maxLocals = 5) (hr : meth.sig.returnType = (some .int)) (hin : meth.name = yX12_rolls.name) {v0 : Nat} {K_113 : Int32 → AH → Option (Int32 × AH)} (hK_113 : ∀ (w1 : Int32) (h : AH), K_113 w1 h = some y → EE G p l e ({ frames := 4, cells := 0, slots := 0, locals := 93 } : Room) s m args below meth c (some (.int y.1), y.2) 0 0 113 [(0, .ref v0), (1, .int w1)] [] h 0 0) :
    ∀ (n : Nat) (v1 : Int32) (v2 : Int32) (h : AH), lq2 (F_X12_rolls_4 G v0 K_113) n v1 v2 h = some y → EE G p l e ({ frames := 4, cells := 0, slots := 0, locals := 93 } : Room) s m args below meth c (some (.int y.1), y.2) 0 0 4 [(0, .ref v0), (1, .int v1), (2, .int v2)] [] h 0 0 := by
  intro n
  induction n with
  | zero => intro v1 v2 h hf; exact (no_e hf).elim
  | succ n ih_4 =>
    intro v1 v2 h hf
    have hf : F_X12_rolls_4 G v0 K_113 (lq2 (F_X12_rolls_4 G v0 K_113) n) v1 v2 h = some y := hf
    generalize lq2 (F_X12_rolls_4 G v0 K_113) n = self_4 at hf ih_4
    unfold F_X12_rolls_4 at hf
    refine e_iload_n (pc := 4) C dX12_rolls_4 2 rfl rfl ?_
    refine e_aload_n (pc := 5) C dX12_rolls_5 0 rfl rfl ?_
    obtain ⟨t1, hf⟩ := ck_e hf
    refine e_getr (pc := 6) 12 1 C dX12_rolls_6 (by decide) (by decide) g1402 rfl t1 ?_
    obtain ⟨b2, eb2, hf⟩ := ob_e hf
    refine e_rf eb2 ?_
    refine e_bipush (v := (6 : Int32)) (pc := 9) C dX12_rolls_9 (by decide) ?_
    obtain ⟨q3, hf⟩ := ck_e hf
    obtain ⟨n4, tn4, in4⟩ := ix_e q3
    refine e_iald (pc := 11) C dX12_rolls_11 tn4 in4 ?_
    rcases it_e hf with ⟨c5, hf⟩ | ⟨c5, hf⟩
    · refine e_icmp_ge (pc := 12) (tgt := 113) C dX12_rolls_12 (by decide) (fun _ => ?_) (fun q => absurd c5 q)
      refine e_lv (lv2 := [(0, .ref v0), (1, .int v1)]) [0, 1] rfl ?_
      exact hK_113 v1 h hf
    · refine e_icmp_ge (pc := 12) (tgt := 113) C dX12_rolls_12 (by decide) (fun q => absurd q c5) (fun _ => ?_)
      refine e_aload_n (pc := 15) C dX12_rolls_15 0 rfl rfl ?_
      refine e_iload_n (pc := 16) C dX12_rolls_16 2 rfl rfl ?_
      obtain ⟨r8, h6, y7, hf⟩ := cb_e hf
      refine e_callVi (pc := 17) (st := []) 12 C (ct_X12_rides y7) dX12_rolls_17 (by decide) t1 g1778 g1780 g76 g157 g1781 hd_X12_rides rfl ⟨Nat.le_of_ble_eq_true rfl, Nat.le_of_ble_eq_true rfl⟩ ⟨Nat.le_of_ble_eq_true rfl, Nat.le_of_ble_eq_true rfl⟩ rfl (Nat.le_of_ble_eq_true rfl) ?_
      obtain ⟨j_107, ej_107, hf⟩ := nn_e hf
      have W_107 : ∀ (v1_107 : Int32) (h_107 : AH), j_107 v1_107 h_107 = some y → EE G p l e ({ frames := 4, cells := 0, slots := 0, locals := 93 } : Room) s m args below meth c (some (.int y.1), y.2) 0 0 107 [(0, .ref v0), (1, .int v1_107), (2, .int v2)] [] h_107 0 0 := by
        intro v1_107 h_107 hf
        rw [ej_107] at hf
        obtain ⟨x9, ex9, hf⟩ := nn_e hf
        refine e_iinc (pc := 107) (v := x9) (lv2 := [(2, .int x9), (0, .ref v0), (1, .int v1_107)]) C hm dX12_rolls_107 2 rfl (by rw [ex9]; rfl) (by decide) rfl ?_
        refine e_goto (pc := 110) (tgt := 4) C dX12_rolls_110 (by decide) ?_
        refine e_lv (lv2 := [(0, .ref v0), (1, .int v1_107), (2, .int x9)]) [1, 2, 0] rfl ?_
        exact ih_4 v1_107 x9 h_107 hf
      rcases it_e hf with ⟨c10, hf⟩ | ⟨c10, hf⟩
      · refine e_if_eq (pc := 20) (tgt := 107) C dX12_rolls_20 (by decide) (fun _ => ?_) (fun q => absurd c10 q)
        exact W_107 v1 h6 hf
      · refine e_if_eq (pc := 20) (tgt := 107) C dX12_rolls_20 (by decide) (fun q => absurd q c10) (fun _ => ?_)
        refine e_aload_n (pc := 23) C dX12_rolls_23 0 rfl rfl ?_
        refine e_iload_n (pc := 24) C dX12_rolls_24 2 rfl rfl ?_
        refine e_aload_n (pc := 25) C dX12_rolls_25 0 rfl rfl ?_
        obtain ⟨t11, hf⟩ := ck_e hf
        refine e_getr (pc := 26) 12 1 C dX12_rolls_26 (by decide) (by decide) g1402 rfl t11 ?_
        obtain ⟨b12, eb12, hf⟩ := ob_e hf
        refine e_rf eb12 ?_
        refine e_bipush (v := (13 : Int32)) (pc := 29) C dX12_rolls_29 (by decide) ?_
        obtain ⟨q13, hf⟩ := ck_e hf
        obtain ⟨n14, tn14, in14⟩ := ix_e q13
        refine e_iald (pc := 31) C dX12_rolls_31 tn14 in14 ?_
        obtain ⟨r17, h15, y16, hf⟩ := cb_e hf
        refine e_callVi (pc := 32) (st := []) 12 C (ct_X12_suffersBy y16) dX12_rolls_32 (by decide) t11 g1878 g1880 g92 g157 g1881 hd_X12_suffersBy rfl ⟨Nat.le_of_ble_eq_true rfl, Nat.le_of_ble_eq_true rfl⟩ ⟨Nat.le_of_ble_eq_true rfl, Nat.le_of_ble_eq_true rfl⟩ rfl (Nat.le_of_ble_eq_true rfl) ?_
        refine e_istore_n (pc := 35) (lv2 := [(3, .int r17), (0, .ref v0), (1, .int v1), (2, .int v2)]) C hm dX12_rolls_35 rfl (by decide) rfl ?_
        refine e_aload_n (pc := 36) C dX12_rolls_36 1 rfl rfl ?_
        obtain ⟨t18, hf⟩ := ck_e hf
        refine e_getr (pc := 37) 12 12 C dX12_rolls_37 (by decide) (by decide) g1413 rfl t18 ?_
        obtain ⟨b19, eb19, hf⟩ := ob_e hf
        refine e_rf eb19 ?_
        refine e_iload_n (pc := 40) C dX12_rolls_40 3 rfl rfl ?_
        refine e_dup2 (pc := 41) C dX12_rolls_41 rfl rfl ?_
        obtain ⟨q20, hf⟩ := ck_e hf
        obtain ⟨n21, tn21, in21⟩ := ix_e q20
        refine e_iald (pc := 42) C dX12_rolls_42 tn21 in21 ?_
        refine e_iload_n (pc := 43) C dX12_rolls_43 0 rfl rfl ?_
        refine e_iadd (pc := 44) C dX12_rolls_44 ?_
        obtain ⟨q22, hf⟩ := ck_e hf
        obtain ⟨n23, tn23, in23⟩ := ix_e q22
        refine e_iast (pc := 45) C dX12_rolls_45 tn23 in23 ?_
        obtain ⟨h24, eh24, hf⟩ := nn_e hf
        refine e_hp eh24 ?_
        have uh24 : m_t h24 = m_t h15 := by rw [eh24]; exact rfl
        refine e_iload_n (pc := 46) C dX12_rolls_46 2 rfl rfl ?_
        refine e_iload_n (pc := 47) C dX12_rolls_47 0 rfl rfl ?_
        refine e_iadd (pc := 48) C dX12_rolls_48 ?_
        obtain ⟨x25, ex25, hf⟩ := nn_e hf
        refine e_topi ex25 ?_
        refine e_istore_n (pc := 49) (lv2 := [(1, .int x25), (3, .int r17), (0, .ref v0), (2, .int v2)]) C hm dX12_rolls_49 rfl (by decide) rfl ?_
        refine e_aload_n (pc := 50) C dX12_rolls_50 2 rfl rfl ?_
        refine e_getr (pc := 51) 12 11 C dX12_rolls_51 (by decide) (by decide) g1412 rfl (e_mt uh24 t18) ?_
        obtain ⟨b26, eb26, hf⟩ := ob_e hf
        refine e_rf eb26 ?_
        refine e_iload_n (pc := 54) C dX12_rolls_54 3 rfl rfl ?_
        obtain ⟨q27, hf⟩ := ck_e hf
        obtain ⟨n28, tn28, in28⟩ := ix_e q27
        refine e_iald (pc := 55) C dX12_rolls_55 tn28 in28 ?_
        obtain ⟨j_71, ej_71, hf⟩ := nn_e hf
        have W_71 : ∀ (s0_71 : Int32), j_71 s0_71 = some y → EE G p l e ({ frames := 4, cells := 0, slots := 0, locals := 93 } : Room) s m args below meth c (some (.int y.1), y.2) 0 0 71 [(0, .ref v0), (1, .int x25), (2, .int v2)] [.int s0_71] h24 0 0 := by
          intro s0_71 hf
          rw [ej_71] at hf
          refine e_istore (pc := 71) (lv2 := [(4, .int s0_71), (0, .ref v0), (1, .int x25), (2, .int v2)]) C hm dX12_rolls_71 (by decide) rfl ?_
          refine e_aload_n (pc := 73) C dX12_rolls_73 1 rfl rfl ?_
          refine e_getr (pc := 74) 12 11 C dX12_rolls_74 (by decide) (by decide) g1412 rfl (e_mt uh24 t18) ?_
          obtain ⟨b29, eb29, hf⟩ := ob_e hf
          refine e_rf eb29 ?_
          refine e_iload_n (pc := 77) C dX12_rolls_77 3 rfl rfl ?_
          refine e_aload_n (pc := 78) C dX12_rolls_78 1 rfl rfl ?_
          refine e_iload_n (pc := 79) C dX12_rolls_79 3 rfl rfl ?_
          obtain ⟨r32, h30, y31, hf⟩ := cb_e hf
          refine e_callVi (pc := 80) (st := [.int v2, .ref b29]) 12 C (ct_X12_wantOf y31) dX12_rolls_80 (by decide) (e_mt uh24 t18) g1870 g1872 g91 g157 g1873 hd_X12_wantOf rfl ⟨Nat.le_of_ble_eq_true rfl, Nat.le_of_ble_eq_true rfl⟩ ⟨Nat.le_of_ble_eq_true rfl, Nat.le_of_ble_eq_true rfl⟩ rfl (Nat.le_of_ble_eq_true rfl) ?_
          refine e_aload_n (pc := 83) C dX12_rolls_83 1 rfl rfl ?_
          obtain ⟨t33, hf⟩ := ck_e hf
          refine e_getr (pc := 84) 12 1 C dX12_rolls_84 (by decide) (by decide) g1402 rfl t33 ?_
          obtain ⟨b34, eb34, hf⟩ := ob_e hf
          refine e_rf eb34 ?_
          refine e_bipush (v := (13 : Int32)) (pc := 87) C dX12_rolls_87 (by decide) ?_
          obtain ⟨q35, hf⟩ := ck_e hf
          obtain ⟨n36, tn36, in36⟩ := ix_e q35
          refine e_iald (pc := 89) C dX12_rolls_89 tn36 in36 ?_
          obtain ⟨j_106, ej_106, hf⟩ := nn_e hf
          have W_106 : ∀ (s0_106 : Int32), j_106 s0_106 = some y → EE G p l e ({ frames := 4, cells := 0, slots := 0, locals := 93 } : Room) s m args below meth c (some (.int y.1), y.2) 0 0 106 [(0, .ref v0), (1, .int x25), (2, .int v2)] [.int s0_106, .int v2, .ref b29] h30 0 0 := by
            intro s0_106 hf
            rw [ej_106] at hf
            obtain ⟨q37, hf⟩ := ck_e hf
            obtain ⟨n38, tn38, in38⟩ := ix_e q37
            refine e_iast (pc := 106) C dX12_rolls_106 tn38 in38 ?_
            obtain ⟨h39, eh39, hf⟩ := nn_e hf
            refine e_hp eh39 ?_
            have uh39 : m_t h39 = m_t h30 := by rw [eh39]; exact rfl
            exact W_107 x25 h39 hf
          rcases it_e hf with ⟨c40, hf⟩ | ⟨c40, hf⟩
          · refine e_icmp_ne (pc := 90) (tgt := 98) C dX12_rolls_90 (by decide) (fun q => absurd c40 q) (fun _ => ?_)
            refine e_iload (pc := 93) C dX12_rolls_93 0 rfl ?_
            refine e_goto (pc := 95) (tgt := 106) C dX12_rolls_95 (by decide) ?_
            refine e_lv (lv2 := [(0, .ref v0), (1, .int x25), (2, .int v2)]) [1, 2, 3] rfl ?_
            exact W_106 s0_71 hf
          · refine e_icmp_ne (pc := 90) (tgt := 98) C dX12_rolls_90 (by decide) (fun _ => ?_) (fun q => absurd q c40)
            refine e_aload_n (pc := 98) C dX12_rolls_98 1 rfl rfl ?_
            refine e_getr (pc := 99) 12 11 C dX12_rolls_99 (by decide) (by decide) g1412 rfl t33 ?_
            obtain ⟨b41, eb41, hf⟩ := ob_e hf
            refine e_rf eb41 ?_
            refine e_iload_n (pc := 102) C dX12_rolls_102 3 rfl rfl ?_
            obtain ⟨q42, hf⟩ := ck_e hf
            obtain ⟨n43, tn43, in43⟩ := ix_e q42
            refine e_iald (pc := 103) C dX12_rolls_103 tn43 in43 ?_
            refine e_iconst (v := (1 : Int32)) (pc := 104) C dX12_rolls_104 (by decide) ?_
            refine e_iadd (pc := 105) C dX12_rolls_105 ?_
            refine e_lv (lv2 := [(0, .ref v0), (1, .int x25), (2, .int v2)]) [1, 2, 3] rfl ?_
            exact W_106 ((m_i h30 b41 v2.toNatClampNeg) + (1 : Int32)) hf
        rcases it_e hf with ⟨c44, hf⟩ | ⟨c44, hf⟩
        · refine e_if_le (pc := 56) (tgt := 70) C dX12_rolls_56 (by decide) (fun _ => ?_) (fun q => absurd c44 q)
          refine e_iconst (v := (0 : Int32)) (pc := 70) C dX12_rolls_70 (by decide) ?_
          refine e_lv (lv2 := [(0, .ref v0), (1, .int x25), (2, .int v2)]) [2, 0, 3] rfl ?_
          exact W_71 (0 : Int32) hf
        · refine e_if_le (pc := 56) (tgt := 70) C dX12_rolls_56 (by decide) (fun q => absurd q c44) (fun _ => ?_)
          refine e_aload_n (pc := 59) C dX12_rolls_59 2 rfl rfl ?_
          refine e_getr (pc := 60) 12 11 C dX12_rolls_60 (by decide) (by decide) g1412 rfl (e_mt uh24 t18) ?_
          obtain ⟨b45, eb45, hf⟩ := ob_e hf
          refine e_rf eb45 ?_
          refine e_iload_n (pc := 63) C dX12_rolls_63 3 rfl rfl ?_
          obtain ⟨q46, hf⟩ := ck_e hf
          obtain ⟨n47, tn47, in47⟩ := ix_e q46
          refine e_iald (pc := 64) C dX12_rolls_64 tn47 in47 ?_
          refine e_iconst (v := (1 : Int32)) (pc := 65) C dX12_rolls_65 (by decide) ?_
          refine e_isub (pc := 66) C dX12_rolls_66 ?_
          refine e_goto (pc := 67) (tgt := 71) C dX12_rolls_67 (by decide) ?_
          refine e_lv (lv2 := [(0, .ref v0), (1, .int x25), (2, .int v2)]) [2, 0, 3] rfl ?_
          exact W_71 ((m_i h24 b45 v2.toNatClampNeg) - (1 : Int32)) hf
set_option maxHeartbeats 4000000 in
set_option maxRecDepth 100000 in
theorem ct_X12_rolls {G : GG} {l : Launch} {v0 : Nat} {h : AH} {y : Int32 × AH} (hf : f_X12_rolls G v0 h = some y) : Ct G l yX12_rolls cX12_rolls 5 (some .int) 4 93 0 0 [.ref v0] h (some (.int y.1), y.2) := by
  refine ct_of (by decide) (Nat.le_of_ble_eq_true rfl) ?_
  intro p e s m args below meth c C hm hr hin
  have C : Cx G cX12_rolls RX12 p s m args meth c := C
  refine e_lv (lv2 := [(0, .ref v0)]) [0] rfl ?_
  unfold f_X12_rolls at hf
  refine e_iconst (v := (0 : Int32)) (pc := 0) C dX12_rolls_0 (by decide) ?_
  refine e_istore_n (pc := 1) (lv2 := [(1, .int (0 : Int32)), (0, .ref v0)]) C hm dX12_rolls_1 rfl (by decide) rfl ?_
  refine e_iconst (v := (0 : Int32)) (pc := 2) C dX12_rolls_2 (by decide) ?_
  refine e_istore_n (pc := 3) (lv2 := [(2, .int (0 : Int32)), (1, .int (0 : Int32)), (0, .ref v0)]) C hm dX12_rolls_3 rfl (by decide) rfl ?_
  refine e_lv (lv2 := [(0, .ref v0), (1, .int (0 : Int32)), (2, .int (0 : Int32))]) [2, 1, 0] rfl ?_
  refine el_X12_rolls_4 C hm hr hin (fun v1_113 h_113 hf => ?_) bN (0 : Int32) (0 : Int32) h hf
  refine e_aload_n (pc := 113) C dX12_rolls_113 0 rfl rfl ?_
  obtain ⟨t48, hf⟩ := ck_e hf
  refine e_getr (pc := 114) 12 2 C dX12_rolls_114 (by decide) (by decide) g1403 rfl t48 ?_
  obtain ⟨b49, eb49, hf⟩ := ob_e hf
  refine e_rf eb49 ?_
  refine e_iconst (v := (0 : Int32)) (pc := 117) C dX12_rolls_117 (by decide) ?_
  refine e_aload_n (pc := 118) C dX12_rolls_118 0 rfl rfl ?_
  refine e_getr (pc := 119) 12 1 C dX12_rolls_119 (by decide) (by decide) g1402 rfl t48 ?_
  obtain ⟨b50, eb50, hf⟩ := ob_e hf
  refine e_rf eb50 ?_
  refine e_bipush (v := (12 : Int32)) (pc := 122) C dX12_rolls_122 (by decide) ?_
  obtain ⟨q51, hf⟩ := ck_e hf
  obtain ⟨n52, tn52, in52⟩ := ix_e q51
  refine e_iald (pc := 124) C dX12_rolls_124 tn52 in52 ?_
  obtain ⟨q53, hf⟩ := ck_e hf
  obtain ⟨n54, tn54, in54⟩ := ix_e q53
  refine e_iast (pc := 125) C dX12_rolls_125 tn54 in54 ?_
  obtain ⟨h55, eh55, hf⟩ := nn_e hf
  refine e_hp eh55 ?_
  have uh55 : m_t h55 = m_t h_113 := by rw [eh55]; exact rfl
  refine e_aload_n (pc := 126) C dX12_rolls_126 0 rfl rfl ?_
  refine e_getr (pc := 127) 12 1 C dX12_rolls_127 (by decide) (by decide) g1402 rfl (e_mt uh55 t48) ?_
  obtain ⟨b56, eb56, hf⟩ := ob_e hf
  refine e_rf eb56 ?_
  refine e_bipush (v := (11 : Int32)) (pc := 130) C dX12_rolls_130 (by decide) ?_
  refine e_aload_n (pc := 132) C dX12_rolls_132 0 rfl rfl ?_
  refine e_getr (pc := 133) 12 1 C dX12_rolls_133 (by decide) (by decide) g1402 rfl (e_mt uh55 t48) ?_
  obtain ⟨b57, eb57, hf⟩ := ob_e hf
  refine e_rf eb57 ?_
  refine e_bipush (v := (11 : Int32)) (pc := 136) C dX12_rolls_136 (by decide) ?_
  obtain ⟨q58, hf⟩ := ck_e hf
  obtain ⟨n59, tn59, in59⟩ := ix_e q58
  refine e_iald (pc := 138) C dX12_rolls_138 tn59 in59 ?_
  refine e_aload_n (pc := 139) C dX12_rolls_139 0 rfl rfl ?_
  refine e_getr (pc := 140) 12 2 C dX12_rolls_140 (by decide) (by decide) g1403 rfl (e_mt uh55 t48) ?_
  obtain ⟨b60, eb60, hf⟩ := ob_e hf
  refine e_rf eb60 ?_
  refine e_aload_n (pc := 143) C dX12_rolls_143 0 rfl rfl ?_
  refine e_getr (pc := 144) 12 1 C dX12_rolls_144 (by decide) (by decide) g1402 rfl (e_mt uh55 t48) ?_
  obtain ⟨b61, eb61, hf⟩ := ob_e hf
  refine e_rf eb61 ?_
  refine e_iconst (v := (3 : Int32)) (pc := 147) C dX12_rolls_147 (by decide) ?_
  obtain ⟨q62, hf⟩ := ck_e hf
  obtain ⟨n63, tn63, in63⟩ := ix_e q62
  refine e_iald (pc := 148) C dX12_rolls_148 tn63 in63 ?_
  obtain ⟨q64, hf⟩ := ck_e hf
  obtain ⟨n65, tn65, in65⟩ := ix_e q64
  refine e_iald (pc := 149) C dX12_rolls_149 tn65 in65 ?_
  refine e_aload_n (pc := 150) C dX12_rolls_150 0 rfl rfl ?_
  refine e_getr (pc := 151) 12 1 C dX12_rolls_151 (by decide) (by decide) g1402 rfl (e_mt uh55 t48) ?_
  obtain ⟨b66, eb66, hf⟩ := ob_e hf
  refine e_rf eb66 ?_
  refine e_bipush (v := (13 : Int32)) (pc := 154) C dX12_rolls_154 (by decide) ?_
  obtain ⟨q67, hf⟩ := ck_e hf
  obtain ⟨n68, tn68, in68⟩ := ix_e q67
  refine e_iald (pc := 156) C dX12_rolls_156 tn68 in68 ?_
  refine e_aload_n (pc := 157) C dX12_rolls_157 0 rfl rfl ?_
  refine e_aload_n (pc := 158) C dX12_rolls_158 0 rfl rfl ?_
  refine e_getr (pc := 159) 12 1 C dX12_rolls_159 (by decide) (by decide) g1402 rfl (e_mt uh55 t48) ?_
  obtain ⟨b69, eb69, hf⟩ := ob_e hf
  refine e_rf eb69 ?_
  refine e_bipush (v := (10 : Int32)) (pc := 162) C dX12_rolls_162 (by decide) ?_
  obtain ⟨q70, hf⟩ := ck_e hf
  obtain ⟨n71, tn71, in71⟩ := ix_e q70
  refine e_iald (pc := 164) C dX12_rolls_164 tn71 in71 ?_
  obtain ⟨r74, h72, y73, hf⟩ := cb_e hf
  refine e_callVi (pc := 165) (st := [.int (m_i h55 b66 (13 : Int32).toNatClampNeg), .int (m_i h55 b60 (m_i h55 b61 (3 : Int32).toNatClampNeg).toNatClampNeg), .int (m_i h55 b57 (11 : Int32).toNatClampNeg), .int (11 : Int32), .ref b56]) 12 C (ct_X12_coldOf y73) dX12_rolls_165 (by decide) (e_mt uh55 t48) g1916 g1918 g97 g157 g1919 hd_X12_coldOf rfl ⟨Nat.le_of_ble_eq_true rfl, Nat.le_of_ble_eq_true rfl⟩ ⟨Nat.le_of_ble_eq_true rfl, Nat.le_of_ble_eq_true rfl⟩ rfl (Nat.le_of_ble_eq_true rfl) ?_
  obtain ⟨r77, h75, y76, hf⟩ := cb_e hf
  refine e_callSi (pc := 168) (st := [.int (11 : Int32), .ref b56]) C (ct_X12_warmer y76) dX12_rolls_168 g1989 g1990 g157 g1991 hd_X12_warmer rfl ⟨Nat.le_of_ble_eq_true rfl, Nat.le_of_ble_eq_true rfl⟩ ⟨Nat.le_of_ble_eq_true rfl, Nat.le_of_ble_eq_true rfl⟩ rfl (Nat.le_of_ble_eq_true rfl) ?_
  obtain ⟨q78, hf⟩ := ck_e hf
  obtain ⟨n79, tn79, in79⟩ := ix_e q78
  refine e_iast (pc := 171) C dX12_rolls_171 tn79 in79 ?_
  obtain ⟨h80, eh80, hf⟩ := nn_e hf
  refine e_hp eh80 ?_
  have uh80 : m_t h80 = m_t h75 := by rw [eh80]; exact rfl
  refine e_aload_n (pc := 172) C dX12_rolls_172 0 rfl rfl ?_
  obtain ⟨t81, hf⟩ := ck_e hf
  obtain ⟨h82, y83, hf⟩ := ob_e hf
  refine e_callVv (pc := 173) (st := []) 12 C (ct_X12_knobMoves y83) dX12_rolls_173 (by decide) t81 g1992 g1994 g111 g157 g1995 hd_X12_knobMoves rfl ⟨Nat.le_of_ble_eq_true rfl, Nat.le_of_ble_eq_true rfl⟩ ⟨Nat.le_of_ble_eq_true rfl, Nat.le_of_ble_eq_true rfl⟩ rfl (Nat.le_of_ble_eq_true rfl) ?_
  refine e_aload_n (pc := 176) C dX12_rolls_176 0 rfl rfl ?_
  obtain ⟨t84, hf⟩ := ck_e hf
  refine e_getr (pc := 177) 12 1 C dX12_rolls_177 (by decide) (by decide) g1402 rfl t84 ?_
  obtain ⟨b85, eb85, hf⟩ := ob_e hf
  refine e_rf eb85 ?_
  refine e_bipush (v := (10 : Int32)) (pc := 180) C dX12_rolls_180 (by decide) ?_
  refine e_dup2 (pc := 182) C dX12_rolls_182 rfl rfl ?_
  obtain ⟨q86, hf⟩ := ck_e hf
  obtain ⟨n87, tn87, in87⟩ := ix_e q86
  refine e_iald (pc := 183) C dX12_rolls_183 tn87 in87 ?_
  refine e_iconst (v := (1 : Int32)) (pc := 184) C dX12_rolls_184 (by decide) ?_
  refine e_iadd (pc := 185) C dX12_rolls_185 ?_
  obtain ⟨q88, hf⟩ := ck_e hf
  obtain ⟨n89, tn89, in89⟩ := ix_e q88
  refine e_iast (pc := 186) C dX12_rolls_186 tn89 in89 ?_
  obtain ⟨h90, eh90, hf⟩ := nn_e hf
  refine e_hp eh90 ?_
  have uh90 : m_t h90 = m_t h82 := by rw [eh90]; exact rfl
  refine e_aload_n (pc := 187) C dX12_rolls_187 0 rfl rfl ?_
  obtain ⟨h91, y92, hf⟩ := ob_e hf
  refine e_callVv (pc := 188) (st := []) 12 C (ct_X12_getOut y92) dX12_rolls_188 (by decide) (e_mt uh90 t84) g1996 g1998 g112 g157 g1999 hd_X12_getOut rfl ⟨Nat.le_of_ble_eq_true rfl, Nat.le_of_ble_eq_true rfl⟩ ⟨Nat.le_of_ble_eq_true rfl, Nat.le_of_ble_eq_true rfl⟩ rfl (Nat.le_of_ble_eq_true rfl) ?_
  refine e_aload_n (pc := 191) C dX12_rolls_191 0 rfl rfl ?_
  obtain ⟨t93, hf⟩ := ck_e hf
  obtain ⟨h94, y95, hf⟩ := ob_e hf
  refine e_callVv (pc := 192) (st := []) 12 C (ct_X12_getIn y95) dX12_rolls_192 (by decide) t93 g1759 g1761 g72 g157 g1762 hd_X12_getIn rfl ⟨Nat.le_of_ble_eq_true rfl, Nat.le_of_ble_eq_true rfl⟩ ⟨Nat.le_of_ble_eq_true rfl, Nat.le_of_ble_eq_true rfl⟩ rfl (Nat.le_of_ble_eq_true rfl) ?_
  refine e_iload_n (pc := 195) C dX12_rolls_195 1 rfl rfl ?_
  obtain rfl := so_e hf
  exact e_iret (pc := 196) C hr dX12_rolls_196 (Nat.le_of_ble_eq_true rfl) (Nat.le_of_ble_eq_true rfl)
theorem dX12_mileGoes_0 : decode cX12_mileGoes 0 = .ok (.aload_n 0, 1) := by decide +kernel
theorem dX12_mileGoes_1 : decode cX12_mileGoes 1 = .ok (.getfield 9, 3) := by decide +kernel
theorem dX12_mileGoes_4 : decode cX12_mileGoes 4 = .ok (.bipush 16, 2) := by decide +kernel
theorem dX12_mileGoes_6 : decode cX12_mileGoes 6 = .ok (.iaload, 1) := by decide +kernel
theorem dX12_mileGoes_7 : decode cX12_mileGoes 7 = .ok (.iconst (-1), 1) := by decide +kernel
theorem dX12_mileGoes_8 : decode cX12_mileGoes 8 = .ok (.if_icmp .eq 18, 3) := by decide +kernel
theorem dX12_mileGoes_11 : decode cX12_mileGoes 11 = .ok (.aload_n 0, 1) := by decide +kernel
theorem dX12_mileGoes_12 : decode cX12_mileGoes 12 = .ok (.invokevirtual 504, 3) := by decide +kernel
theorem dX12_mileGoes_15 : decode cX12_mileGoes 15 = .ok (.aload_n 0, 1) := by decide +kernel
theorem dX12_mileGoes_16 : decode cX12_mileGoes 16 = .ok (.getfield 9, 3) := by decide +kernel
theorem dX12_mileGoes_19 : decode cX12_mileGoes 19 = .ok (.bipush 13, 2) := by decide +kernel
theorem dX12_mileGoes_21 : decode cX12_mileGoes 21 = .ok (.aload_n 0, 1) := by decide +kernel
theorem dX12_mileGoes_22 : decode cX12_mileGoes 22 = .ok (.invokevirtual 507, 3) := by decide +kernel
theorem dX12_mileGoes_25 : decode cX12_mileGoes 25 = .ok (.iastore, 1) := by decide +kernel
theorem dX12_mileGoes_26 : decode cX12_mileGoes 26 = .ok (.aload_n 0, 1) := by decide +kernel
theorem dX12_mileGoes_27 : decode cX12_mileGoes 27 = .ok (.invokevirtual 510, 3) := by decide +kernel
theorem dX12_mileGoes_30 : decode cX12_mileGoes 30 = .ok (.ireturn, 1) := by decide +kernel
def f_X12_mileGoes (G : GG) (v0 : Nat) (h : AH) : Option (Int32 × AH) :=
ck (m_t h v0 = .inl 12) <|
ob (m_r h v0 1) fun b2 =>
ck (ixb h b2 .int (16 : Int32) = true) <|
nn (fun (h_26 : AH) => (ck (m_t h_26 v0 = .inl 12) <|
cb (f_X12_rolls G v0 h_26) fun r8 h6 =>
some (r8, h6))) fun j_26 =>
if (m_i h b2 (16 : Int32).toNatClampNeg) = (-1 : Int32) then (j_26 h) else
ob (f_X12_asks G v0 h) fun h10 =>
ck (m_t h10 v0 = .inl 12) <|
ob (m_r h10 v0 1) fun b13 =>
cb (f_X12_pulled G v0 h10) fun r16 h14 =>
ck (ixb h14 b13 .int (13 : Int32) = true) <|
nn (m_si h14 b13 (13 : Int32).toNatClampNeg r16) fun h19 =>
j_26 h19
set_option maxHeartbeats 4000000 in
set_option maxRecDepth 100000 in
theorem ct_X12_mileGoes {G : GG} {l : Launch} {v0 : Nat} {h : AH} {y : Int32 × AH} (hf : f_X12_mileGoes G v0 h = some y) : Ct G l yX12_mileGoes cX12_mileGoes 1 (some .int) 5 117 0 0 [.ref v0] h (some (.int y.1), y.2) := by
  refine ct_of (by decide) (Nat.le_of_ble_eq_true rfl) ?_
  intro p e s m args below meth c C hm hr hin
  have C : Cx G cX12_mileGoes RX12 p s m args meth c := C
  refine e_lv (lv2 := [(0, .ref v0)]) [0] rfl ?_
  unfold f_X12_mileGoes at hf
  refine e_aload_n (pc := 0) C dX12_mileGoes_0 0 rfl rfl ?_
  obtain ⟨t1, hf⟩ := ck_e hf
  refine e_getr (pc := 1) 12 1 C dX12_mileGoes_1 (by decide) (by decide) g1402 rfl t1 ?_
  obtain ⟨b2, eb2, hf⟩ := ob_e hf
  refine e_rf eb2 ?_
  refine e_bipush (v := (16 : Int32)) (pc := 4) C dX12_mileGoes_4 (by decide) ?_
  obtain ⟨q3, hf⟩ := ck_e hf
  obtain ⟨n4, tn4, in4⟩ := ix_e q3
  refine e_iald (pc := 6) C dX12_mileGoes_6 tn4 in4 ?_
  refine e_iconst (v := (-1 : Int32)) (pc := 7) C dX12_mileGoes_7 (by decide) ?_
  obtain ⟨j_26, ej_26, hf⟩ := nn_e hf
  have W_26 : ∀ (h_26 : AH), j_26 h_26 = some y → EE G p l e ({ frames := 5, cells := 0, slots := 0, locals := 117 } : Room) s m args below meth c (some (.int y.1), y.2) 0 0 26 [(0, .ref v0)] [] h_26 0 0 := by
    intro h_26 hf
    rw [ej_26] at hf
    refine e_aload_n (pc := 26) C dX12_mileGoes_26 0 rfl rfl ?_
    obtain ⟨t5, hf⟩ := ck_e hf
    obtain ⟨r8, h6, y7, hf⟩ := cb_e hf
    refine e_callVi (pc := 27) (st := []) 12 C (ct_X12_rolls y7) dX12_mileGoes_27 (by decide) t5 g1985 g1987 g110 g157 g1988 hd_X12_rolls rfl ⟨Nat.le_of_ble_eq_true rfl, Nat.le_of_ble_eq_true rfl⟩ ⟨Nat.le_of_ble_eq_true rfl, Nat.le_of_ble_eq_true rfl⟩ rfl (Nat.le_of_ble_eq_true rfl) ?_
    obtain rfl := so_e hf
    exact e_iret (pc := 30) C hr dX12_mileGoes_30 (Nat.le_of_ble_eq_true rfl) (Nat.le_of_ble_eq_true rfl)
  rcases it_e hf with ⟨c9, hf⟩ | ⟨c9, hf⟩
  · refine e_icmp_eq (pc := 8) (tgt := 26) C dX12_mileGoes_8 (by decide) (fun _ => ?_) (fun q => absurd c9 q)
    exact W_26 h hf
  · refine e_icmp_eq (pc := 8) (tgt := 26) C dX12_mileGoes_8 (by decide) (fun q => absurd q c9) (fun _ => ?_)
    refine e_aload_n (pc := 11) C dX12_mileGoes_11 0 rfl rfl ?_
    obtain ⟨h10, y11, hf⟩ := ob_e hf
    refine e_callVv (pc := 12) (st := []) 12 C (ct_X12_asks y11) dX12_mileGoes_12 (by decide) t1 g1952 g1954 g104 g157 g1955 hd_X12_asks rfl ⟨Nat.le_of_ble_eq_true rfl, Nat.le_of_ble_eq_true rfl⟩ ⟨Nat.le_of_ble_eq_true rfl, Nat.le_of_ble_eq_true rfl⟩ rfl (Nat.le_of_ble_eq_true rfl) ?_
    refine e_aload_n (pc := 15) C dX12_mileGoes_15 0 rfl rfl ?_
    obtain ⟨t12, hf⟩ := ck_e hf
    refine e_getr (pc := 16) 12 1 C dX12_mileGoes_16 (by decide) (by decide) g1402 rfl t12 ?_
    obtain ⟨b13, eb13, hf⟩ := ob_e hf
    refine e_rf eb13 ?_
    refine e_bipush (v := (13 : Int32)) (pc := 19) C dX12_mileGoes_19 (by decide) ?_
    refine e_aload_n (pc := 21) C dX12_mileGoes_21 0 rfl rfl ?_
    obtain ⟨r16, h14, y15, hf⟩ := cb_e hf
    refine e_callVi (pc := 22) (st := [.int (13 : Int32), .ref b13]) 12 C (ct_X12_pulled y15) dX12_mileGoes_22 (by decide) t12 g1968 g1970 g108 g157 g1971 hd_X12_pulled rfl ⟨Nat.le_of_ble_eq_true rfl, Nat.le_of_ble_eq_true rfl⟩ ⟨Nat.le_of_ble_eq_true rfl, Nat.le_of_ble_eq_true rfl⟩ rfl (Nat.le_of_ble_eq_true rfl) ?_
    obtain ⟨q17, hf⟩ := ck_e hf
    obtain ⟨n18, tn18, in18⟩ := ix_e q17
    refine e_iast (pc := 25) C dX12_mileGoes_25 tn18 in18 ?_
    obtain ⟨h19, eh19, hf⟩ := nn_e hf
    refine e_hp eh19 ?_
    have uh19 : m_t h19 = m_t h14 := by rw [eh19]; exact rfl
    exact W_26 h19 hf
theorem dX12_moves_0 : decode cX12_moves 0 = .ok (.aload_n 0, 1) := by decide +kernel
theorem dX12_moves_1 : decode cX12_moves 1 = .ok (.getfield 513, 3) := by decide +kernel
theorem dX12_moves_4 : decode cX12_moves 4 = .ok (.ifCond .eq 15, 3) := by decide +kernel
theorem dX12_moves_7 : decode cX12_moves 7 = .ok (.aload_n 0, 1) := by decide +kernel
theorem dX12_moves_8 : decode cX12_moves 8 = .ok (.getfield 142, 3) := by decide +kernel
theorem dX12_moves_11 : decode cX12_moves 11 = .ok (.aload_n 0, 1) := by decide +kernel
theorem dX12_moves_12 : decode cX12_moves 12 = .ok (.getfield 517, 3) := by decide +kernel
theorem dX12_moves_15 : decode cX12_moves 15 = .ok (.iaload, 1) := by decide +kernel
theorem dX12_moves_16 : decode cX12_moves 16 = .ok (.goto 4, 3) := by decide +kernel
theorem dX12_moves_19 : decode cX12_moves 19 = .ok (.iload_n 1, 1) := by decide +kernel
theorem dX12_moves_20 : decode cX12_moves 20 = .ok (.istore_n 2, 1) := by decide +kernel
theorem dX12_moves_21 : decode cX12_moves 21 = .ok (.aload_n 0, 1) := by decide +kernel
theorem dX12_moves_22 : decode cX12_moves 22 = .ok (.getfield 142, 3) := by decide +kernel
theorem dX12_moves_25 : decode cX12_moves 25 = .ok (.aload_n 0, 1) := by decide +kernel
theorem dX12_moves_26 : decode cX12_moves 26 = .ok (.getfield 517, 3) := by decide +kernel
theorem dX12_moves_29 : decode cX12_moves 29 = .ok (.iload_n 2, 1) := by decide +kernel
theorem dX12_moves_30 : decode cX12_moves 30 = .ok (.iastore, 1) := by decide +kernel
theorem dX12_moves_31 : decode cX12_moves 31 = .ok (.aload_n 0, 1) := by decide +kernel
theorem dX12_moves_32 : decode cX12_moves 32 = .ok (.dup, 1) := by decide +kernel
theorem dX12_moves_33 : decode cX12_moves 33 = .ok (.getfield 517, 3) := by decide +kernel
theorem dX12_moves_36 : decode cX12_moves 36 = .ok (.iconst 1, 1) := by decide +kernel
theorem dX12_moves_37 : decode cX12_moves 37 = .ok (.iadd, 1) := by decide +kernel
theorem dX12_moves_38 : decode cX12_moves 38 = .ok (.putfield 517, 3) := by decide +kernel
theorem dX12_moves_41 : decode cX12_moves 41 = .ok (.iload_n 2, 1) := by decide +kernel
theorem dX12_moves_42 : decode cX12_moves 42 = .ok (.ireturn, 1) := by decide +kernel
def f_X12_moves (G : GG) (v0 : Nat) (v1 : Int32) (h : AH) : Option (Int32 × AH) :=
ck (m_t h v0 = .inl 12) <|
nn (fun (s0_20 : Int32) => (ob (m_r h v0 53) fun b2 =>
ck (ixb h b2 .int (m_i h v0 56) = true) <|
nn (m_si h b2 (m_i h v0 56).toNatClampNeg s0_20) fun h5 =>
nn (m_si h5 v0 56 ((m_i h5 v0 56) + (1 : Int32))) fun h6 =>
some (s0_20, h6))) fun j_20 =>
if (m_i h v0 57) = 0 then (j_20 v1) else
ob (m_r h v0 53) fun b8 =>
ck (ixb h b8 .int (m_i h v0 56) = true) <|
j_20 (m_i h b8 (m_i h v0 56).toNatClampNeg)
set_option maxHeartbeats 4000000 in
set_option maxRecDepth 100000 in
theorem ct_X12_moves {G : GG} {l : Launch} {v0 : Nat} {v1 : Int32} {h : AH} {y : Int32 × AH} (hf : f_X12_moves G v0 v1 h = some y) : Ct G l yX12_moves cX12_moves 3 (some .int) 0 0 0 0 [.ref v0, .int v1] h (some (.int y.1), y.2) := by
  refine ct_of (by decide) (Nat.le_of_ble_eq_true rfl) ?_
  intro p e s m args below meth c C hm hr hin
  have C : Cx G cX12_moves RX12 p s m args meth c := C
  refine e_lv (lv2 := [(0, .ref v0), (1, .int v1)]) [0, 1] rfl ?_
  unfold f_X12_moves at hf
  refine e_aload_n (pc := 0) C dX12_moves_0 0 rfl rfl ?_
  obtain ⟨t1, hf⟩ := ck_e hf
  refine e_geti (pc := 1) 12 57 C dX12_moves_1 (by decide) (by decide) g1458 rfl t1 ?_
  obtain ⟨j_20, ej_20, hf⟩ := nn_e hf
  have W_20 : ∀ (s0_20 : Int32), j_20 s0_20 = some y → EE G p l e ({ frames := 0, cells := 0, slots := 0, locals := 0 } : Room) s m args below meth c (some (.int y.1), y.2) 0 0 20 [(0, .ref v0)] [.int s0_20] h 0 0 := by
    intro s0_20 hf
    rw [ej_20] at hf
    refine e_istore_n (pc := 20) (lv2 := [(2, .int s0_20), (0, .ref v0)]) C hm dX12_moves_20 rfl (by decide) rfl ?_
    refine e_aload_n (pc := 21) C dX12_moves_21 1 rfl rfl ?_
    refine e_getr (pc := 22) 12 53 C dX12_moves_22 (by decide) (by decide) g1454 rfl t1 ?_
    obtain ⟨b2, eb2, hf⟩ := ob_e hf
    refine e_rf eb2 ?_
    refine e_aload_n (pc := 25) C dX12_moves_25 1 rfl rfl ?_
    refine e_geti (pc := 26) 12 56 C dX12_moves_26 (by decide) (by decide) g1457 rfl t1 ?_
    refine e_iload_n (pc := 29) C dX12_moves_29 0 rfl rfl ?_
    obtain ⟨q3, hf⟩ := ck_e hf
    obtain ⟨n4, tn4, in4⟩ := ix_e q3
    refine e_iast (pc := 30) C dX12_moves_30 tn4 in4 ?_
    obtain ⟨h5, eh5, hf⟩ := nn_e hf
    refine e_hp eh5 ?_
    have uh5 : m_t h5 = m_t h := by rw [eh5]; exact rfl
    refine e_aload_n (pc := 31) C dX12_moves_31 1 rfl rfl ?_
    refine e_dup (pc := 32) C dX12_moves_32 rfl ?_
    refine e_geti (pc := 33) 12 56 C dX12_moves_33 (by decide) (by decide) g1457 rfl (e_mt uh5 t1) ?_
    refine e_iconst (v := (1 : Int32)) (pc := 36) C dX12_moves_36 (by decide) ?_
    refine e_iadd (pc := 37) C dX12_moves_37 ?_
    refine e_puti (pc := 38) 12 56 C dX12_moves_38 (by decide) (by decide) g1457 rfl rfl rfl rfl (e_mt uh5 t1) ?_
    obtain ⟨h6, eh6, hf⟩ := nn_e hf
    refine e_hp eh6 ?_
    have uh6 : m_t h6 = m_t h := by rw [eh6]; exact uh5
    refine e_iload_n (pc := 41) C dX12_moves_41 0 rfl rfl ?_
    obtain rfl := so_e hf
    exact e_iret (pc := 42) C hr dX12_moves_42 (Nat.le_of_ble_eq_true rfl) (Nat.le_of_ble_eq_true rfl)
  rcases it_e hf with ⟨c7, hf⟩ | ⟨c7, hf⟩
  · refine e_if_eq (pc := 4) (tgt := 19) C dX12_moves_4 (by decide) (fun _ => ?_) (fun q => absurd c7 q)
    refine e_iload_n (pc := 19) C dX12_moves_19 1 rfl rfl ?_
    refine e_lv (lv2 := [(0, .ref v0)]) [0] rfl ?_
    exact W_20 v1 hf
  · refine e_if_eq (pc := 4) (tgt := 19) C dX12_moves_4 (by decide) (fun q => absurd q c7) (fun _ => ?_)
    refine e_aload_n (pc := 7) C dX12_moves_7 0 rfl rfl ?_
    refine e_getr (pc := 8) 12 53 C dX12_moves_8 (by decide) (by decide) g1454 rfl t1 ?_
    obtain ⟨b8, eb8, hf⟩ := ob_e hf
    refine e_rf eb8 ?_
    refine e_aload_n (pc := 11) C dX12_moves_11 0 rfl rfl ?_
    refine e_geti (pc := 12) 12 56 C dX12_moves_12 (by decide) (by decide) g1457 rfl t1 ?_
    obtain ⟨q9, hf⟩ := ck_e hf
    obtain ⟨n10, tn10, in10⟩ := ix_e q9
    refine e_iald (pc := 15) C dX12_moves_15 tn10 in10 ?_
    refine e_goto (pc := 16) (tgt := 20) C dX12_moves_16 (by decide) ?_
    refine e_lv (lv2 := [(0, .ref v0)]) [0] rfl ?_
    exact W_20 (m_i h b8 (m_i h v0 56).toNatClampNeg) hf
theorem dX12_movesRow_0 : decode cX12_movesRow 0 = .ok (.iconst 0, 1) := by decide +kernel
theorem dX12_movesRow_1 : decode cX12_movesRow 1 = .ok (.istore_n 2, 1) := by decide +kernel
theorem dX12_movesRow_2 : decode cX12_movesRow 2 = .ok (.iload_n 2, 1) := by decide +kernel
theorem dX12_movesRow_3 : decode cX12_movesRow 3 = .ok (.aload_n 1, 1) := by decide +kernel
theorem dX12_movesRow_4 : decode cX12_movesRow 4 = .ok (.arraylength, 1) := by decide +kernel
theorem dX12_movesRow_5 : decode cX12_movesRow 5 = .ok (.if_icmp .ge 19, 3) := by decide +kernel
theorem dX12_movesRow_8 : decode cX12_movesRow 8 = .ok (.aload_n 1, 1) := by decide +kernel
theorem dX12_movesRow_9 : decode cX12_movesRow 9 = .ok (.iload_n 2, 1) := by decide +kernel
theorem dX12_movesRow_10 : decode cX12_movesRow 10 = .ok (.aload_n 0, 1) := by decide +kernel
theorem dX12_movesRow_11 : decode cX12_movesRow 11 = .ok (.aload_n 1, 1) := by decide +kernel
theorem dX12_movesRow_12 : decode cX12_movesRow 12 = .ok (.iload_n 2, 1) := by decide +kernel
theorem dX12_movesRow_13 : decode cX12_movesRow 13 = .ok (.iaload, 1) := by decide +kernel
theorem dX12_movesRow_14 : decode cX12_movesRow 14 = .ok (.invokevirtual 520, 3) := by decide +kernel
theorem dX12_movesRow_17 : decode cX12_movesRow 17 = .ok (.iastore, 1) := by decide +kernel
theorem dX12_movesRow_18 : decode cX12_movesRow 18 = .ok (.iinc 2 1, 3) := by decide +kernel
theorem dX12_movesRow_21 : decode cX12_movesRow 21 = .ok (.goto (-19), 3) := by decide +kernel
theorem dX12_movesRow_24 : decode cX12_movesRow 24 = .ok (.return_, 1) := by decide +kernel
def F_X12_movesRow_2 (G : GG) (v0 : Nat) (v1 : Nat) (self_2 : Int32 → AH → Option (AH)) (v2 : Int32) (h : AH) : Option (AH) :=
ob (alb h v1 .int) fun n1 =>
if (nI n1) ≤ v2 then (some h) else
ck (ixb h v1 .int v2 = true) <|
ck (m_t h v0 = .inl 12) <|
cb (f_X12_moves G v0 (m_i h v1 v2.toNatClampNeg) h) fun r8 h6 =>
ck (ixb h6 v1 .int v2 = true) <|
nn (m_si h6 v1 v2.toNatClampNeg r8) fun h11 =>
nn (v2 + (1 : Int32)) fun x12 =>
self_2 x12 h11
def f_X12_movesRow (G : GG) (v0 : Nat) (v1 : Nat) (h : AH) : Option (AH) :=
lq1 (F_X12_movesRow_2 G v0 v1 ) bN (0 : Int32) h
set_option maxHeartbeats 4000000 in
set_option maxRecDepth 100000 in
theorem el_X12_movesRow_2 {G : GG} {p : Program} {l : Launch} {e : Env} {s : State} {m : MethodId} {args : Array Value} {below : List Frame} {meth : Method} {c : Code} {y : AH} (C : Cx G cX12_movesRow RX12 p s m args meth c) (hm : c.maxLocals = 3) (hr : meth.sig.returnType = none) (hin : meth.name = yX12_movesRow.name) {v0 : Nat} {v1 : Nat}  :
    ∀ (n : Nat) (v2 : Int32) (h : AH), lq1 (F_X12_movesRow_2 G v0 v1) n v2 h = some y → EE G p l e ({ frames := 1, cells := 0, slots := 0, locals := 22 } : Room) s m args below meth c (none, y) 0 0 2 [(0, .ref v0), (1, .ref v1), (2, .int v2)] [] h 0 0 := by
  intro n
  induction n with
  | zero => intro v2 h hf; exact (no_e hf).elim
  | succ n ih_2 =>
    intro v2 h hf
    have hf : F_X12_movesRow_2 G v0 v1 (lq1 (F_X12_movesRow_2 G v0 v1) n) v2 h = some y := hf
    generalize lq1 (F_X12_movesRow_2 G v0 v1) n = self_2 at hf ih_2
    unfold F_X12_movesRow_2 at hf
    refine e_iload_n (pc := 2) C dX12_movesRow_2 2 rfl rfl ?_
    refine e_aload_n (pc := 3) C dX12_movesRow_3 1 rfl rfl ?_
    obtain ⟨n1, en1, hf⟩ := ob_e hf
    refine e_alen (pc := 4) 0 rfl C dX12_movesRow_4 (al_e en1) ?_
    rcases it_e hf with ⟨c2, hf⟩ | ⟨c2, hf⟩
    · refine e_icmp_ge (pc := 5) (tgt := 24) C dX12_movesRow_5 (by decide) (fun _ => ?_) (fun q => absurd c2 q)
      obtain rfl := so_e hf
      exact e_vret (pc := 24) C hr dX12_movesRow_24 (Nat.le_of_ble_eq_true rfl) (Nat.le_of_ble_eq_true rfl)
    · refine e_icmp_ge (pc := 5) (tgt := 24) C dX12_movesRow_5 (by decide) (fun q => absurd q c2) (fun _ => ?_)
      refine e_aload_n (pc := 8) C dX12_movesRow_8 1 rfl rfl ?_
      refine e_iload_n (pc := 9) C dX12_movesRow_9 2 rfl rfl ?_
      refine e_aload_n (pc := 10) C dX12_movesRow_10 0 rfl rfl ?_
      refine e_aload_n (pc := 11) C dX12_movesRow_11 1 rfl rfl ?_
      refine e_iload_n (pc := 12) C dX12_movesRow_12 2 rfl rfl ?_
      obtain ⟨q3, hf⟩ := ck_e hf
      obtain ⟨n4, tn4, in4⟩ := ix_e q3
      refine e_iald (pc := 13) C dX12_movesRow_13 tn4 in4 ?_
      obtain ⟨t5, hf⟩ := ck_e hf
      obtain ⟨r8, h6, y7, hf⟩ := cb_e hf
      refine e_callVi (pc := 14) (st := [.int v2, .ref v1]) 12 C (ct_X12_moves y7) dX12_movesRow_14 (by decide) t5 g1928 g1930 g99 g157 g1931 hd_X12_moves rfl ⟨Nat.le_of_ble_eq_true rfl, Nat.le_of_ble_eq_true rfl⟩ ⟨Nat.le_of_ble_eq_true rfl, Nat.le_of_ble_eq_true rfl⟩ rfl (Nat.le_of_ble_eq_true rfl) ?_
      obtain ⟨q9, hf⟩ := ck_e hf
      obtain ⟨n10, tn10, in10⟩ := ix_e q9
      refine e_iast (pc := 17) C dX12_movesRow_17 tn10 in10 ?_
      obtain ⟨h11, eh11, hf⟩ := nn_e hf
      refine e_hp eh11 ?_
      have uh11 : m_t h11 = m_t h6 := by rw [eh11]; exact rfl
      obtain ⟨x12, ex12, hf⟩ := nn_e hf
      refine e_iinc (pc := 18) (v := x12) (lv2 := [(2, .int x12), (0, .ref v0), (1, .ref v1)]) C hm dX12_movesRow_18 2 rfl (by rw [ex12]; rfl) (by decide) rfl ?_
      refine e_goto (pc := 21) (tgt := 2) C dX12_movesRow_21 (by decide) ?_
      refine e_lv (lv2 := [(0, .ref v0), (1, .ref v1), (2, .int x12)]) [1, 2, 0] rfl ?_
      exact ih_2 x12 h11 hf
set_option maxHeartbeats 4000000 in
set_option maxRecDepth 100000 in
theorem ct_X12_movesRow {G : GG} {l : Launch} {v0 : Nat} {v1 : Nat} {h : AH} {y : AH} (hf : f_X12_movesRow G v0 v1 h = some y) : Ct G l yX12_movesRow cX12_movesRow 3 none 1 22 0 0 [.ref v0, .ref v1] h (none, y) := by
  refine ct_of (by decide) (Nat.le_of_ble_eq_true rfl) ?_
  intro p e s m args below meth c C hm hr hin
  have C : Cx G cX12_movesRow RX12 p s m args meth c := C
  refine e_lv (lv2 := [(0, .ref v0), (1, .ref v1)]) [0, 1] rfl ?_
  unfold f_X12_movesRow at hf
  refine e_iconst (v := (0 : Int32)) (pc := 0) C dX12_movesRow_0 (by decide) ?_
  refine e_istore_n (pc := 1) (lv2 := [(2, .int (0 : Int32)), (0, .ref v0), (1, .ref v1)]) C hm dX12_movesRow_1 rfl (by decide) rfl ?_
  refine e_lv (lv2 := [(0, .ref v0), (1, .ref v1), (2, .int (0 : Int32))]) [1, 2, 0] rfl ?_
  exact el_X12_movesRow_2 C hm hr hin bN (0 : Int32) h hf
theorem dX12_movesAll_0 : decode cX12_movesAll 0 = .ok (.aload_n 0, 1) := by decide +kernel
theorem dX12_movesAll_1 : decode cX12_movesAll 1 = .ok (.bipush 51, 2) := by decide +kernel
theorem dX12_movesAll_3 : decode cX12_movesAll 3 = .ok (.iload_n 1, 1) := by decide +kernel
theorem dX12_movesAll_4 : decode cX12_movesAll 4 = .ok (.imul, 1) := by decide +kernel
theorem dX12_movesAll_5 : decode cX12_movesAll 5 = .ok (.putfield 517, 3) := by decide +kernel
theorem dX12_movesAll_8 : decode cX12_movesAll 8 = .ok (.aload_n 0, 1) := by decide +kernel
theorem dX12_movesAll_9 : decode cX12_movesAll 9 = .ok (.iload_n 2, 1) := by decide +kernel
theorem dX12_movesAll_10 : decode cX12_movesAll 10 = .ok (.putfield 513, 3) := by decide +kernel
theorem dX12_movesAll_13 : decode cX12_movesAll 13 = .ok (.aload_n 0, 1) := by decide +kernel
theorem dX12_movesAll_14 : decode cX12_movesAll 14 = .ok (.getfield 9, 3) := by decide +kernel
theorem dX12_movesAll_17 : decode cX12_movesAll 17 = .ok (.bipush 10, 2) := by decide +kernel
theorem dX12_movesAll_19 : decode cX12_movesAll 19 = .ok (.aload_n 0, 1) := by decide +kernel
theorem dX12_movesAll_20 : decode cX12_movesAll 20 = .ok (.aload_n 0, 1) := by decide +kernel
theorem dX12_movesAll_21 : decode cX12_movesAll 21 = .ok (.getfield 9, 3) := by decide +kernel
theorem dX12_movesAll_24 : decode cX12_movesAll 24 = .ok (.bipush 10, 2) := by decide +kernel
theorem dX12_movesAll_26 : decode cX12_movesAll 26 = .ok (.iaload, 1) := by decide +kernel
theorem dX12_movesAll_27 : decode cX12_movesAll 27 = .ok (.invokevirtual 520, 3) := by decide +kernel
theorem dX12_movesAll_30 : decode cX12_movesAll 30 = .ok (.iastore, 1) := by decide +kernel
theorem dX12_movesAll_31 : decode cX12_movesAll 31 = .ok (.aload_n 0, 1) := by decide +kernel
theorem dX12_movesAll_32 : decode cX12_movesAll 32 = .ok (.getfield 9, 3) := by decide +kernel
theorem dX12_movesAll_35 : decode cX12_movesAll 35 = .ok (.bipush 11, 2) := by decide +kernel
theorem dX12_movesAll_37 : decode cX12_movesAll 37 = .ok (.aload_n 0, 1) := by decide +kernel
theorem dX12_movesAll_38 : decode cX12_movesAll 38 = .ok (.aload_n 0, 1) := by decide +kernel
theorem dX12_movesAll_39 : decode cX12_movesAll 39 = .ok (.getfield 9, 3) := by decide +kernel
theorem dX12_movesAll_42 : decode cX12_movesAll 42 = .ok (.bipush 11, 2) := by decide +kernel
theorem dX12_movesAll_44 : decode cX12_movesAll 44 = .ok (.iaload, 1) := by decide +kernel
theorem dX12_movesAll_45 : decode cX12_movesAll 45 = .ok (.invokevirtual 520, 3) := by decide +kernel
theorem dX12_movesAll_48 : decode cX12_movesAll 48 = .ok (.iastore, 1) := by decide +kernel
theorem dX12_movesAll_49 : decode cX12_movesAll 49 = .ok (.aload_n 0, 1) := by decide +kernel
theorem dX12_movesAll_50 : decode cX12_movesAll 50 = .ok (.getfield 9, 3) := by decide +kernel
theorem dX12_movesAll_53 : decode cX12_movesAll 53 = .ok (.bipush 12, 2) := by decide +kernel
theorem dX12_movesAll_55 : decode cX12_movesAll 55 = .ok (.aload_n 0, 1) := by decide +kernel
theorem dX12_movesAll_56 : decode cX12_movesAll 56 = .ok (.aload_n 0, 1) := by decide +kernel
theorem dX12_movesAll_57 : decode cX12_movesAll 57 = .ok (.getfield 9, 3) := by decide +kernel
theorem dX12_movesAll_60 : decode cX12_movesAll 60 = .ok (.bipush 12, 2) := by decide +kernel
theorem dX12_movesAll_62 : decode cX12_movesAll 62 = .ok (.iaload, 1) := by decide +kernel
theorem dX12_movesAll_63 : decode cX12_movesAll 63 = .ok (.invokevirtual 520, 3) := by decide +kernel
theorem dX12_movesAll_66 : decode cX12_movesAll 66 = .ok (.iastore, 1) := by decide +kernel
theorem dX12_movesAll_67 : decode cX12_movesAll 67 = .ok (.aload_n 0, 1) := by decide +kernel
theorem dX12_movesAll_68 : decode cX12_movesAll 68 = .ok (.getfield 9, 3) := by decide +kernel
theorem dX12_movesAll_71 : decode cX12_movesAll 71 = .ok (.bipush 13, 2) := by decide +kernel
theorem dX12_movesAll_73 : decode cX12_movesAll 73 = .ok (.aload_n 0, 1) := by decide +kernel
theorem dX12_movesAll_74 : decode cX12_movesAll 74 = .ok (.aload_n 0, 1) := by decide +kernel
theorem dX12_movesAll_75 : decode cX12_movesAll 75 = .ok (.getfield 9, 3) := by decide +kernel
theorem dX12_movesAll_78 : decode cX12_movesAll 78 = .ok (.bipush 13, 2) := by decide +kernel
theorem dX12_movesAll_80 : decode cX12_movesAll 80 = .ok (.iaload, 1) := by decide +kernel
theorem dX12_movesAll_81 : decode cX12_movesAll 81 = .ok (.invokevirtual 520, 3) := by decide +kernel
theorem dX12_movesAll_84 : decode cX12_movesAll 84 = .ok (.iastore, 1) := by decide +kernel
theorem dX12_movesAll_85 : decode cX12_movesAll 85 = .ok (.aload_n 0, 1) := by decide +kernel
theorem dX12_movesAll_86 : decode cX12_movesAll 86 = .ok (.aload_n 0, 1) := by decide +kernel
theorem dX12_movesAll_87 : decode cX12_movesAll 87 = .ok (.getfield 13, 3) := by decide +kernel
theorem dX12_movesAll_90 : decode cX12_movesAll 90 = .ok (.invokevirtual 523, 3) := by decide +kernel
theorem dX12_movesAll_93 : decode cX12_movesAll 93 = .ok (.aload_n 0, 1) := by decide +kernel
theorem dX12_movesAll_94 : decode cX12_movesAll 94 = .ok (.aload_n 0, 1) := by decide +kernel
theorem dX12_movesAll_95 : decode cX12_movesAll 95 = .ok (.getfield 31, 3) := by decide +kernel
theorem dX12_movesAll_98 : decode cX12_movesAll 98 = .ok (.invokevirtual 523, 3) := by decide +kernel
theorem dX12_movesAll_101 : decode cX12_movesAll 101 = .ok (.aload_n 0, 1) := by decide +kernel
theorem dX12_movesAll_102 : decode cX12_movesAll 102 = .ok (.aload_n 0, 1) := by decide +kernel
theorem dX12_movesAll_103 : decode cX12_movesAll 103 = .ok (.getfield 34, 3) := by decide +kernel
theorem dX12_movesAll_106 : decode cX12_movesAll 106 = .ok (.invokevirtual 523, 3) := by decide +kernel
theorem dX12_movesAll_109 : decode cX12_movesAll 109 = .ok (.aload_n 0, 1) := by decide +kernel
theorem dX12_movesAll_110 : decode cX12_movesAll 110 = .ok (.aload_n 0, 1) := by decide +kernel
theorem dX12_movesAll_111 : decode cX12_movesAll 111 = .ok (.getfield 37, 3) := by decide +kernel
theorem dX12_movesAll_114 : decode cX12_movesAll 114 = .ok (.invokevirtual 523, 3) := by decide +kernel
theorem dX12_movesAll_117 : decode cX12_movesAll 117 = .ok (.aload_n 0, 1) := by decide +kernel
theorem dX12_movesAll_118 : decode cX12_movesAll 118 = .ok (.aload_n 0, 1) := by decide +kernel
theorem dX12_movesAll_119 : decode cX12_movesAll 119 = .ok (.getfield 40, 3) := by decide +kernel
theorem dX12_movesAll_122 : decode cX12_movesAll 122 = .ok (.invokevirtual 523, 3) := by decide +kernel
theorem dX12_movesAll_125 : decode cX12_movesAll 125 = .ok (.aload_n 0, 1) := by decide +kernel
theorem dX12_movesAll_126 : decode cX12_movesAll 126 = .ok (.aload_n 0, 1) := by decide +kernel
theorem dX12_movesAll_127 : decode cX12_movesAll 127 = .ok (.getfield 43, 3) := by decide +kernel
theorem dX12_movesAll_130 : decode cX12_movesAll 130 = .ok (.invokevirtual 523, 3) := by decide +kernel
theorem dX12_movesAll_133 : decode cX12_movesAll 133 = .ok (.return_, 1) := by decide +kernel
def f_X12_movesAll (G : GG) (v0 : Nat) (v1 : Int32) (v2 : Int32) (h : AH) : Option (AH) :=
ck (m_t h v0 = .inl 12) <|
nn (m_si h v0 56 ((51 : Int32) * v1)) fun h2 =>
ck (v2 &&& 1 = v2) <|
nn (m_si h2 v0 57 v2) fun h4 =>
ob (m_r h4 v0 1) fun b5 =>
ob (m_r h4 v0 1) fun b6 =>
ck (ixb h4 b6 .int (10 : Int32) = true) <|
cb (f_X12_moves G v0 (m_i h4 b6 (10 : Int32).toNatClampNeg) h4) fun r11 h9 =>
ck (ixb h9 b5 .int (10 : Int32) = true) <|
nn (m_si h9 b5 (10 : Int32).toNatClampNeg r11) fun h14 =>
ck (m_t h14 v0 = .inl 12) <|
ob (m_r h14 v0 1) fun b16 =>
ob (m_r h14 v0 1) fun b17 =>
ck (ixb h14 b17 .int (11 : Int32) = true) <|
cb (f_X12_moves G v0 (m_i h14 b17 (11 : Int32).toNatClampNeg) h14) fun r22 h20 =>
ck (ixb h20 b16 .int (11 : Int32) = true) <|
nn (m_si h20 b16 (11 : Int32).toNatClampNeg r22) fun h25 =>
ck (m_t h25 v0 = .inl 12) <|
ob (m_r h25 v0 1) fun b27 =>
ob (m_r h25 v0 1) fun b28 =>
ck (ixb h25 b28 .int (12 : Int32) = true) <|
cb (f_X12_moves G v0 (m_i h25 b28 (12 : Int32).toNatClampNeg) h25) fun r33 h31 =>
ck (ixb h31 b27 .int (12 : Int32) = true) <|
nn (m_si h31 b27 (12 : Int32).toNatClampNeg r33) fun h36 =>
ck (m_t h36 v0 = .inl 12) <|
ob (m_r h36 v0 1) fun b38 =>
ob (m_r h36 v0 1) fun b39 =>
ck (ixb h36 b39 .int (13 : Int32) = true) <|
cb (f_X12_moves G v0 (m_i h36 b39 (13 : Int32).toNatClampNeg) h36) fun r44 h42 =>
ck (ixb h42 b38 .int (13 : Int32) = true) <|
nn (m_si h42 b38 (13 : Int32).toNatClampNeg r44) fun h47 =>
ck (m_t h47 v0 = .inl 12) <|
ob (m_r h47 v0 2) fun b49 =>
ob (f_X12_movesRow G v0 b49 h47) fun h50 =>
ck (m_t h50 v0 = .inl 12) <|
ob (m_r h50 v0 8) fun b53 =>
ob (f_X12_movesRow G v0 b53 h50) fun h54 =>
ck (m_t h54 v0 = .inl 12) <|
ob (m_r h54 v0 9) fun b57 =>
ob (f_X12_movesRow G v0 b57 h54) fun h58 =>
ck (m_t h58 v0 = .inl 12) <|
ob (m_r h58 v0 10) fun b61 =>
ob (f_X12_movesRow G v0 b61 h58) fun h62 =>
ck (m_t h62 v0 = .inl 12) <|
ob (m_r h62 v0 11) fun b65 =>
ob (f_X12_movesRow G v0 b65 h62) fun h66 =>
ck (m_t h66 v0 = .inl 12) <|
ob (m_r h66 v0 12) fun b69 =>
ob (f_X12_movesRow G v0 b69 h66) fun h70 =>
some h70
set_option maxHeartbeats 4000000 in
set_option maxRecDepth 100000 in
theorem ct_X12_movesAll {G : GG} {l : Launch} {v0 : Nat} {v1 : Int32} {v2 : Int32} {h : AH} {y : AH} (hf : f_X12_movesAll G v0 v1 v2 h = some y) : Ct G l yX12_movesAll cX12_movesAll 3 none 2 44 0 0 [.ref v0, .int v1, .int v2] h (none, y) := by
  refine ct_of (by decide) (Nat.le_of_ble_eq_true rfl) ?_
  intro p e s m args below meth c C hm hr hin
  have C : Cx G cX12_movesAll RX12 p s m args meth c := C
  refine e_lv (lv2 := [(0, .ref v0), (1, .int v1), (2, .int v2)]) [0, 1, 2] rfl ?_
  unfold f_X12_movesAll at hf
  refine e_aload_n (pc := 0) C dX12_movesAll_0 0 rfl rfl ?_
  refine e_bipush (v := (51 : Int32)) (pc := 1) C dX12_movesAll_1 (by decide) ?_
  refine e_iload_n (pc := 3) C dX12_movesAll_3 1 rfl rfl ?_
  refine e_imul (pc := 4) C dX12_movesAll_4 ?_
  obtain ⟨t1, hf⟩ := ck_e hf
  refine e_puti (pc := 5) 12 56 C dX12_movesAll_5 (by decide) (by decide) g1457 rfl rfl rfl rfl t1 ?_
  obtain ⟨h2, eh2, hf⟩ := nn_e hf
  refine e_hp eh2 ?_
  have uh2 : m_t h2 = m_t h := by rw [eh2]; exact rfl
  refine e_aload_n (pc := 8) C dX12_movesAll_8 0 rfl rfl ?_
  refine e_iload_n (pc := 9) C dX12_movesAll_9 2 rfl rfl ?_
  obtain ⟨q3, hf⟩ := ck_e hf
  refine e_puti (pc := 10) 12 57 C dX12_movesAll_10 (by decide) (by decide) g1458 rfl rfl (nz_fit q3) (nz_ok q3) (e_mt uh2 t1) ?_
  obtain ⟨h4, eh4, hf⟩ := nn_e hf
  refine e_hp eh4 ?_
  have uh4 : m_t h4 = m_t h := by rw [eh4]; exact uh2
  refine e_aload_n (pc := 13) C dX12_movesAll_13 0 rfl rfl ?_
  refine e_getr (pc := 14) 12 1 C dX12_movesAll_14 (by decide) (by decide) g1402 rfl (e_mt uh4 t1) ?_
  obtain ⟨b5, eb5, hf⟩ := ob_e hf
  refine e_rf eb5 ?_
  refine e_bipush (v := (10 : Int32)) (pc := 17) C dX12_movesAll_17 (by decide) ?_
  refine e_aload_n (pc := 19) C dX12_movesAll_19 0 rfl rfl ?_
  refine e_aload_n (pc := 20) C dX12_movesAll_20 0 rfl rfl ?_
  refine e_getr (pc := 21) 12 1 C dX12_movesAll_21 (by decide) (by decide) g1402 rfl (e_mt uh4 t1) ?_
  obtain ⟨b6, eb6, hf⟩ := ob_e hf
  refine e_rf eb6 ?_
  refine e_bipush (v := (10 : Int32)) (pc := 24) C dX12_movesAll_24 (by decide) ?_
  obtain ⟨q7, hf⟩ := ck_e hf
  obtain ⟨n8, tn8, in8⟩ := ix_e q7
  refine e_iald (pc := 26) C dX12_movesAll_26 tn8 in8 ?_
  obtain ⟨r11, h9, y10, hf⟩ := cb_e hf
  refine e_callVi (pc := 27) (st := [.int (10 : Int32), .ref b5]) 12 C (ct_X12_moves y10) dX12_movesAll_27 (by decide) (e_mt uh4 t1) g1928 g1930 g99 g157 g1931 hd_X12_moves rfl ⟨Nat.le_of_ble_eq_true rfl, Nat.le_of_ble_eq_true rfl⟩ ⟨Nat.le_of_ble_eq_true rfl, Nat.le_of_ble_eq_true rfl⟩ rfl (Nat.le_of_ble_eq_true rfl) ?_
  obtain ⟨q12, hf⟩ := ck_e hf
  obtain ⟨n13, tn13, in13⟩ := ix_e q12
  refine e_iast (pc := 30) C dX12_movesAll_30 tn13 in13 ?_
  obtain ⟨h14, eh14, hf⟩ := nn_e hf
  refine e_hp eh14 ?_
  have uh14 : m_t h14 = m_t h9 := by rw [eh14]; exact rfl
  refine e_aload_n (pc := 31) C dX12_movesAll_31 0 rfl rfl ?_
  obtain ⟨t15, hf⟩ := ck_e hf
  refine e_getr (pc := 32) 12 1 C dX12_movesAll_32 (by decide) (by decide) g1402 rfl t15 ?_
  obtain ⟨b16, eb16, hf⟩ := ob_e hf
  refine e_rf eb16 ?_
  refine e_bipush (v := (11 : Int32)) (pc := 35) C dX12_movesAll_35 (by decide) ?_
  refine e_aload_n (pc := 37) C dX12_movesAll_37 0 rfl rfl ?_
  refine e_aload_n (pc := 38) C dX12_movesAll_38 0 rfl rfl ?_
  refine e_getr (pc := 39) 12 1 C dX12_movesAll_39 (by decide) (by decide) g1402 rfl t15 ?_
  obtain ⟨b17, eb17, hf⟩ := ob_e hf
  refine e_rf eb17 ?_
  refine e_bipush (v := (11 : Int32)) (pc := 42) C dX12_movesAll_42 (by decide) ?_
  obtain ⟨q18, hf⟩ := ck_e hf
  obtain ⟨n19, tn19, in19⟩ := ix_e q18
  refine e_iald (pc := 44) C dX12_movesAll_44 tn19 in19 ?_
  obtain ⟨r22, h20, y21, hf⟩ := cb_e hf
  refine e_callVi (pc := 45) (st := [.int (11 : Int32), .ref b16]) 12 C (ct_X12_moves y21) dX12_movesAll_45 (by decide) t15 g1928 g1930 g99 g157 g1931 hd_X12_moves rfl ⟨Nat.le_of_ble_eq_true rfl, Nat.le_of_ble_eq_true rfl⟩ ⟨Nat.le_of_ble_eq_true rfl, Nat.le_of_ble_eq_true rfl⟩ rfl (Nat.le_of_ble_eq_true rfl) ?_
  obtain ⟨q23, hf⟩ := ck_e hf
  obtain ⟨n24, tn24, in24⟩ := ix_e q23
  refine e_iast (pc := 48) C dX12_movesAll_48 tn24 in24 ?_
  obtain ⟨h25, eh25, hf⟩ := nn_e hf
  refine e_hp eh25 ?_
  have uh25 : m_t h25 = m_t h20 := by rw [eh25]; exact rfl
  refine e_aload_n (pc := 49) C dX12_movesAll_49 0 rfl rfl ?_
  obtain ⟨t26, hf⟩ := ck_e hf
  refine e_getr (pc := 50) 12 1 C dX12_movesAll_50 (by decide) (by decide) g1402 rfl t26 ?_
  obtain ⟨b27, eb27, hf⟩ := ob_e hf
  refine e_rf eb27 ?_
  refine e_bipush (v := (12 : Int32)) (pc := 53) C dX12_movesAll_53 (by decide) ?_
  refine e_aload_n (pc := 55) C dX12_movesAll_55 0 rfl rfl ?_
  refine e_aload_n (pc := 56) C dX12_movesAll_56 0 rfl rfl ?_
  refine e_getr (pc := 57) 12 1 C dX12_movesAll_57 (by decide) (by decide) g1402 rfl t26 ?_
  obtain ⟨b28, eb28, hf⟩ := ob_e hf
  refine e_rf eb28 ?_
  refine e_bipush (v := (12 : Int32)) (pc := 60) C dX12_movesAll_60 (by decide) ?_
  obtain ⟨q29, hf⟩ := ck_e hf
  obtain ⟨n30, tn30, in30⟩ := ix_e q29
  refine e_iald (pc := 62) C dX12_movesAll_62 tn30 in30 ?_
  obtain ⟨r33, h31, y32, hf⟩ := cb_e hf
  refine e_callVi (pc := 63) (st := [.int (12 : Int32), .ref b27]) 12 C (ct_X12_moves y32) dX12_movesAll_63 (by decide) t26 g1928 g1930 g99 g157 g1931 hd_X12_moves rfl ⟨Nat.le_of_ble_eq_true rfl, Nat.le_of_ble_eq_true rfl⟩ ⟨Nat.le_of_ble_eq_true rfl, Nat.le_of_ble_eq_true rfl⟩ rfl (Nat.le_of_ble_eq_true rfl) ?_
  obtain ⟨q34, hf⟩ := ck_e hf
  obtain ⟨n35, tn35, in35⟩ := ix_e q34
  refine e_iast (pc := 66) C dX12_movesAll_66 tn35 in35 ?_
  obtain ⟨h36, eh36, hf⟩ := nn_e hf
  refine e_hp eh36 ?_
  have uh36 : m_t h36 = m_t h31 := by rw [eh36]; exact rfl
  refine e_aload_n (pc := 67) C dX12_movesAll_67 0 rfl rfl ?_
  obtain ⟨t37, hf⟩ := ck_e hf
  refine e_getr (pc := 68) 12 1 C dX12_movesAll_68 (by decide) (by decide) g1402 rfl t37 ?_
  obtain ⟨b38, eb38, hf⟩ := ob_e hf
  refine e_rf eb38 ?_
  refine e_bipush (v := (13 : Int32)) (pc := 71) C dX12_movesAll_71 (by decide) ?_
  refine e_aload_n (pc := 73) C dX12_movesAll_73 0 rfl rfl ?_
  refine e_aload_n (pc := 74) C dX12_movesAll_74 0 rfl rfl ?_
  refine e_getr (pc := 75) 12 1 C dX12_movesAll_75 (by decide) (by decide) g1402 rfl t37 ?_
  obtain ⟨b39, eb39, hf⟩ := ob_e hf
  refine e_rf eb39 ?_
  refine e_bipush (v := (13 : Int32)) (pc := 78) C dX12_movesAll_78 (by decide) ?_
  obtain ⟨q40, hf⟩ := ck_e hf
  obtain ⟨n41, tn41, in41⟩ := ix_e q40
  refine e_iald (pc := 80) C dX12_movesAll_80 tn41 in41 ?_
  obtain ⟨r44, h42, y43, hf⟩ := cb_e hf
  refine e_callVi (pc := 81) (st := [.int (13 : Int32), .ref b38]) 12 C (ct_X12_moves y43) dX12_movesAll_81 (by decide) t37 g1928 g1930 g99 g157 g1931 hd_X12_moves rfl ⟨Nat.le_of_ble_eq_true rfl, Nat.le_of_ble_eq_true rfl⟩ ⟨Nat.le_of_ble_eq_true rfl, Nat.le_of_ble_eq_true rfl⟩ rfl (Nat.le_of_ble_eq_true rfl) ?_
  obtain ⟨q45, hf⟩ := ck_e hf
  obtain ⟨n46, tn46, in46⟩ := ix_e q45
  refine e_iast (pc := 84) C dX12_movesAll_84 tn46 in46 ?_
  obtain ⟨h47, eh47, hf⟩ := nn_e hf
  refine e_hp eh47 ?_
  have uh47 : m_t h47 = m_t h42 := by rw [eh47]; exact rfl
  refine e_aload_n (pc := 85) C dX12_movesAll_85 0 rfl rfl ?_
  refine e_aload_n (pc := 86) C dX12_movesAll_86 0 rfl rfl ?_
  obtain ⟨t48, hf⟩ := ck_e hf
  refine e_getr (pc := 87) 12 2 C dX12_movesAll_87 (by decide) (by decide) g1403 rfl t48 ?_
  obtain ⟨b49, eb49, hf⟩ := ob_e hf
  refine e_rf eb49 ?_
  obtain ⟨h50, y51, hf⟩ := ob_e hf
  refine e_callVv (pc := 90) (st := []) 12 C (ct_X12_movesRow y51) dX12_movesAll_90 (by decide) t48 g1932 g1934 g100 g157 g1935 hd_X12_movesRow rfl ⟨Nat.le_of_ble_eq_true rfl, Nat.le_of_ble_eq_true rfl⟩ ⟨Nat.le_of_ble_eq_true rfl, Nat.le_of_ble_eq_true rfl⟩ rfl (Nat.le_of_ble_eq_true rfl) ?_
  refine e_aload_n (pc := 93) C dX12_movesAll_93 0 rfl rfl ?_
  refine e_aload_n (pc := 94) C dX12_movesAll_94 0 rfl rfl ?_
  obtain ⟨t52, hf⟩ := ck_e hf
  refine e_getr (pc := 95) 12 8 C dX12_movesAll_95 (by decide) (by decide) g1409 rfl t52 ?_
  obtain ⟨b53, eb53, hf⟩ := ob_e hf
  refine e_rf eb53 ?_
  obtain ⟨h54, y55, hf⟩ := ob_e hf
  refine e_callVv (pc := 98) (st := []) 12 C (ct_X12_movesRow y55) dX12_movesAll_98 (by decide) t52 g1932 g1934 g100 g157 g1935 hd_X12_movesRow rfl ⟨Nat.le_of_ble_eq_true rfl, Nat.le_of_ble_eq_true rfl⟩ ⟨Nat.le_of_ble_eq_true rfl, Nat.le_of_ble_eq_true rfl⟩ rfl (Nat.le_of_ble_eq_true rfl) ?_
  refine e_aload_n (pc := 101) C dX12_movesAll_101 0 rfl rfl ?_
  refine e_aload_n (pc := 102) C dX12_movesAll_102 0 rfl rfl ?_
  obtain ⟨t56, hf⟩ := ck_e hf
  refine e_getr (pc := 103) 12 9 C dX12_movesAll_103 (by decide) (by decide) g1410 rfl t56 ?_
  obtain ⟨b57, eb57, hf⟩ := ob_e hf
  refine e_rf eb57 ?_
  obtain ⟨h58, y59, hf⟩ := ob_e hf
  refine e_callVv (pc := 106) (st := []) 12 C (ct_X12_movesRow y59) dX12_movesAll_106 (by decide) t56 g1932 g1934 g100 g157 g1935 hd_X12_movesRow rfl ⟨Nat.le_of_ble_eq_true rfl, Nat.le_of_ble_eq_true rfl⟩ ⟨Nat.le_of_ble_eq_true rfl, Nat.le_of_ble_eq_true rfl⟩ rfl (Nat.le_of_ble_eq_true rfl) ?_
  refine e_aload_n (pc := 109) C dX12_movesAll_109 0 rfl rfl ?_
  refine e_aload_n (pc := 110) C dX12_movesAll_110 0 rfl rfl ?_
  obtain ⟨t60, hf⟩ := ck_e hf
  refine e_getr (pc := 111) 12 10 C dX12_movesAll_111 (by decide) (by decide) g1411 rfl t60 ?_
  obtain ⟨b61, eb61, hf⟩ := ob_e hf
  refine e_rf eb61 ?_
  obtain ⟨h62, y63, hf⟩ := ob_e hf
  refine e_callVv (pc := 114) (st := []) 12 C (ct_X12_movesRow y63) dX12_movesAll_114 (by decide) t60 g1932 g1934 g100 g157 g1935 hd_X12_movesRow rfl ⟨Nat.le_of_ble_eq_true rfl, Nat.le_of_ble_eq_true rfl⟩ ⟨Nat.le_of_ble_eq_true rfl, Nat.le_of_ble_eq_true rfl⟩ rfl (Nat.le_of_ble_eq_true rfl) ?_
  refine e_aload_n (pc := 117) C dX12_movesAll_117 0 rfl rfl ?_
  refine e_aload_n (pc := 118) C dX12_movesAll_118 0 rfl rfl ?_
  obtain ⟨t64, hf⟩ := ck_e hf
  refine e_getr (pc := 119) 12 11 C dX12_movesAll_119 (by decide) (by decide) g1412 rfl t64 ?_
  obtain ⟨b65, eb65, hf⟩ := ob_e hf
  refine e_rf eb65 ?_
  obtain ⟨h66, y67, hf⟩ := ob_e hf
  refine e_callVv (pc := 122) (st := []) 12 C (ct_X12_movesRow y67) dX12_movesAll_122 (by decide) t64 g1932 g1934 g100 g157 g1935 hd_X12_movesRow rfl ⟨Nat.le_of_ble_eq_true rfl, Nat.le_of_ble_eq_true rfl⟩ ⟨Nat.le_of_ble_eq_true rfl, Nat.le_of_ble_eq_true rfl⟩ rfl (Nat.le_of_ble_eq_true rfl) ?_
  refine e_aload_n (pc := 125) C dX12_movesAll_125 0 rfl rfl ?_
  refine e_aload_n (pc := 126) C dX12_movesAll_126 0 rfl rfl ?_
  obtain ⟨t68, hf⟩ := ck_e hf
  refine e_getr (pc := 127) 12 12 C dX12_movesAll_127 (by decide) (by decide) g1413 rfl t68 ?_
  obtain ⟨b69, eb69, hf⟩ := ob_e hf
  refine e_rf eb69 ?_
  obtain ⟨h70, y71, hf⟩ := ob_e hf
  refine e_callVv (pc := 130) (st := []) 12 C (ct_X12_movesRow y71) dX12_movesAll_130 (by decide) t68 g1932 g1934 g100 g157 g1935 hd_X12_movesRow rfl ⟨Nat.le_of_ble_eq_true rfl, Nat.le_of_ble_eq_true rfl⟩ ⟨Nat.le_of_ble_eq_true rfl, Nat.le_of_ble_eq_true rfl⟩ rfl (Nat.le_of_ble_eq_true rfl) ?_
  obtain rfl := so_e hf
  exact e_vret (pc := 133) C hr dX12_movesAll_133 (Nat.le_of_ble_eq_true rfl) (Nat.le_of_ble_eq_true rfl)
theorem dX12_keepsAct_0 : decode cX12_keepsAct 0 = .ok (.aload_n 0, 1) := by decide +kernel
theorem dX12_keepsAct_1 : decode cX12_keepsAct 1 = .ok (.getfield 393, 3) := by decide +kernel
theorem dX12_keepsAct_4 : decode cX12_keepsAct 4 = .ok (.bipush 20, 2) := by decide +kernel
theorem dX12_keepsAct_6 : decode cX12_keepsAct 6 = .ok (.if_icmp .ne 44, 3) := by decide +kernel
theorem dX12_keepsAct_9 : decode cX12_keepsAct 9 = .ok (.bipush 51, 2) := by decide +kernel
theorem dX12_keepsAct_11 : decode cX12_keepsAct 11 = .ok (.istore_n 1, 1) := by decide +kernel
theorem dX12_keepsAct_12 : decode cX12_keepsAct 12 = .ok (.iload_n 1, 1) := by decide +kernel
theorem dX12_keepsAct_13 : decode cX12_keepsAct 13 = .ok (.sipush 1020, 3) := by decide +kernel
theorem dX12_keepsAct_16 : decode cX12_keepsAct 16 = .ok (.if_icmp .ge 24, 3) := by decide +kernel
theorem dX12_keepsAct_19 : decode cX12_keepsAct 19 = .ok (.aload_n 0, 1) := by decide +kernel
theorem dX12_keepsAct_20 : decode cX12_keepsAct 20 = .ok (.getfield 142, 3) := by decide +kernel
theorem dX12_keepsAct_23 : decode cX12_keepsAct 23 = .ok (.iload_n 1, 1) := by decide +kernel
theorem dX12_keepsAct_24 : decode cX12_keepsAct 24 = .ok (.bipush 51, 2) := by decide +kernel
theorem dX12_keepsAct_26 : decode cX12_keepsAct 26 = .ok (.isub, 1) := by decide +kernel
theorem dX12_keepsAct_27 : decode cX12_keepsAct 27 = .ok (.aload_n 0, 1) := by decide +kernel
theorem dX12_keepsAct_28 : decode cX12_keepsAct 28 = .ok (.getfield 142, 3) := by decide +kernel
theorem dX12_keepsAct_31 : decode cX12_keepsAct 31 = .ok (.iload_n 1, 1) := by decide +kernel
theorem dX12_keepsAct_32 : decode cX12_keepsAct 32 = .ok (.iaload, 1) := by decide +kernel
theorem dX12_keepsAct_33 : decode cX12_keepsAct 33 = .ok (.iastore, 1) := by decide +kernel
theorem dX12_keepsAct_34 : decode cX12_keepsAct 34 = .ok (.iinc 1 1, 3) := by decide +kernel
theorem dX12_keepsAct_37 : decode cX12_keepsAct 37 = .ok (.goto (-25), 3) := by decide +kernel
theorem dX12_keepsAct_40 : decode cX12_keepsAct 40 = .ok (.aload_n 0, 1) := by decide +kernel
theorem dX12_keepsAct_41 : decode cX12_keepsAct 41 = .ok (.dup, 1) := by decide +kernel
theorem dX12_keepsAct_42 : decode cX12_keepsAct 42 = .ok (.getfield 393, 3) := by decide +kernel
theorem dX12_keepsAct_45 : decode cX12_keepsAct 45 = .ok (.iconst 1, 1) := by decide +kernel
theorem dX12_keepsAct_46 : decode cX12_keepsAct 46 = .ok (.isub, 1) := by decide +kernel
theorem dX12_keepsAct_47 : decode cX12_keepsAct 47 = .ok (.putfield 393, 3) := by decide +kernel
theorem dX12_keepsAct_50 : decode cX12_keepsAct 50 = .ok (.aload_n 0, 1) := by decide +kernel
theorem dX12_keepsAct_51 : decode cX12_keepsAct 51 = .ok (.aload_n 0, 1) := by decide +kernel
theorem dX12_keepsAct_52 : decode cX12_keepsAct 52 = .ok (.getfield 393, 3) := by decide +kernel
theorem dX12_keepsAct_55 : decode cX12_keepsAct 55 = .ok (.iconst 0, 1) := by decide +kernel
theorem dX12_keepsAct_56 : decode cX12_keepsAct 56 = .ok (.invokevirtual 527, 3) := by decide +kernel
theorem dX12_keepsAct_59 : decode cX12_keepsAct 59 = .ok (.aload_n 0, 1) := by decide +kernel
theorem dX12_keepsAct_60 : decode cX12_keepsAct 60 = .ok (.dup, 1) := by decide +kernel
theorem dX12_keepsAct_61 : decode cX12_keepsAct 61 = .ok (.getfield 393, 3) := by decide +kernel
theorem dX12_keepsAct_64 : decode cX12_keepsAct 64 = .ok (.iconst 1, 1) := by decide +kernel
theorem dX12_keepsAct_65 : decode cX12_keepsAct 65 = .ok (.iadd, 1) := by decide +kernel
theorem dX12_keepsAct_66 : decode cX12_keepsAct 66 = .ok (.putfield 393, 3) := by decide +kernel
theorem dX12_keepsAct_69 : decode cX12_keepsAct 69 = .ok (.return_, 1) := by decide +kernel
def F_X12_keepsAct_12 (G : GG) (v0 : Nat) (K_40 : AH → Option (AH)) (self_12 : Int32 → AH → Option (AH)) (v1 : Int32) (h : AH) : Option (AH) :=
if (1020 : Int32) ≤ v1 then (K_40 h) else
ck (m_t h v0 = .inl 12) <|
ob (m_r h v0 53) fun b10 =>
ob (m_r h v0 53) fun b11 =>
ck (ixb h b11 .int v1 = true) <|
ck (ixb h b10 .int (v1 - (51 : Int32)) = true) <|
nn (m_si h b10 (v1 - (51 : Int32)).toNatClampNeg (m_i h b11 v1.toNatClampNeg)) fun h16 =>
nn (v1 + (1 : Int32)) fun x17 =>
self_12 x17 h16
def f_X12_keepsAct (G : GG) (v0 : Nat) (h : AH) : Option (AH) :=
ck (m_t h v0 = .inl 12) <|
nn (fun (h_50 : AH) => (ck (m_t h_50 v0 = .inl 12) <|
ob (f_X12_movesAll G v0 (m_i h_50 v0 55) (0 : Int32) h_50) fun h3 =>
ck (m_t h3 v0 = .inl 12) <|
nn (m_si h3 v0 55 ((m_i h3 v0 55) + (1 : Int32))) fun h6 =>
some h6)) fun j_50 =>
if (m_i h v0 55) = (20 : Int32) then (lq1 (F_X12_keepsAct_12 G v0 (fun (h_40 : AH) => (ck (m_t h_40 v0 = .inl 12) <|
nn (m_si h_40 v0 55 ((m_i h_40 v0 55) - (1 : Int32))) fun h19 =>
j_50 h19))) bN (51 : Int32) h) else
j_50 h
set_option maxHeartbeats 4000000 in
set_option maxRecDepth 100000 in
theorem el_X12_keepsAct_12 {G : GG} {p : Program} {l : Launch} {e : Env} {s : State} {m : MethodId} {args : Array Value} {below : List Frame} {meth : Method} {c : Code} {y : AH} (C : Cx G cX12_keepsAct RX12 p s m args meth c) (hm : c.maxLocals = 2) (hr : meth.sig.returnType = none) (hin : meth.name = yX12_keepsAct.name) {v0 : Nat} {K_40 : AH → Option (AH)} (hK_40 : ∀ (h : AH), K_40 h = some y → EE G p l e ({ frames := 3, cells := 0, slots := 0, locals := 66 } : Room) s m args below meth c (none, y) 0 0 40 [(0, .ref v0)] [] h 0 0) :
    ∀ (n : Nat) (v1 : Int32) (h : AH), lq1 (F_X12_keepsAct_12 G v0 K_40) n v1 h = some y → EE G p l e ({ frames := 3, cells := 0, slots := 0, locals := 66 } : Room) s m args below meth c (none, y) 0 0 12 [(0, .ref v0), (1, .int v1)] [] h 0 0 := by
  intro n
  induction n with
  | zero => intro v1 h hf; exact (no_e hf).elim
  | succ n ih_12 =>
    intro v1 h hf
    have hf : F_X12_keepsAct_12 G v0 K_40 (lq1 (F_X12_keepsAct_12 G v0 K_40) n) v1 h = some y := hf
    generalize lq1 (F_X12_keepsAct_12 G v0 K_40) n = self_12 at hf ih_12
    unfold F_X12_keepsAct_12 at hf
    refine e_iload_n (pc := 12) C dX12_keepsAct_12 1 rfl rfl ?_
    refine e_sipush (v := (1020 : Int32)) (pc := 13) C dX12_keepsAct_13 (by decide) ?_
    rcases it_e hf with ⟨c8, hf⟩ | ⟨c8, hf⟩
    · refine e_icmp_ge (pc := 16) (tgt := 40) C dX12_keepsAct_16 (by decide) (fun _ => ?_) (fun q => absurd c8 q)
      refine e_lv (lv2 := [(0, .ref v0)]) [0] rfl ?_
      exact hK_40 h hf
    · refine e_icmp_ge (pc := 16) (tgt := 40) C dX12_keepsAct_16 (by decide) (fun q => absurd q c8) (fun _ => ?_)
      refine e_aload_n (pc := 19) C dX12_keepsAct_19 0 rfl rfl ?_
      obtain ⟨t9, hf⟩ := ck_e hf
      refine e_getr (pc := 20) 12 53 C dX12_keepsAct_20 (by decide) (by decide) g1454 rfl t9 ?_
      obtain ⟨b10, eb10, hf⟩ := ob_e hf
      refine e_rf eb10 ?_
      refine e_iload_n (pc := 23) C dX12_keepsAct_23 1 rfl rfl ?_
      refine e_bipush (v := (51 : Int32)) (pc := 24) C dX12_keepsAct_24 (by decide) ?_
      refine e_isub (pc := 26) C dX12_keepsAct_26 ?_
      refine e_aload_n (pc := 27) C dX12_keepsAct_27 0 rfl rfl ?_
      refine e_getr (pc := 28) 12 53 C dX12_keepsAct_28 (by decide) (by decide) g1454 rfl t9 ?_
      obtain ⟨b11, eb11, hf⟩ := ob_e hf
      refine e_rf eb11 ?_
      refine e_iload_n (pc := 31) C dX12_keepsAct_31 1 rfl rfl ?_
      obtain ⟨q12, hf⟩ := ck_e hf
      obtain ⟨n13, tn13, in13⟩ := ix_e q12
      refine e_iald (pc := 32) C dX12_keepsAct_32 tn13 in13 ?_
      obtain ⟨q14, hf⟩ := ck_e hf
      obtain ⟨n15, tn15, in15⟩ := ix_e q14
      refine e_iast (pc := 33) C dX12_keepsAct_33 tn15 in15 ?_
      obtain ⟨h16, eh16, hf⟩ := nn_e hf
      refine e_hp eh16 ?_
      have uh16 : m_t h16 = m_t h := by rw [eh16]; exact rfl
      obtain ⟨x17, ex17, hf⟩ := nn_e hf
      refine e_iinc (pc := 34) (v := x17) (lv2 := [(1, .int x17), (0, .ref v0)]) C hm dX12_keepsAct_34 1 rfl (by rw [ex17]; rfl) (by decide) rfl ?_
      refine e_goto (pc := 37) (tgt := 12) C dX12_keepsAct_37 (by decide) ?_
      refine e_lv (lv2 := [(0, .ref v0), (1, .int x17)]) [1, 0] rfl ?_
      exact ih_12 x17 h16 hf
set_option maxHeartbeats 4000000 in
set_option maxRecDepth 100000 in
theorem ct_X12_keepsAct {G : GG} {l : Launch} {v0 : Nat} {h : AH} {y : AH} (hf : f_X12_keepsAct G v0 h = some y) : Ct G l yX12_keepsAct cX12_keepsAct 2 none 3 66 0 0 [.ref v0] h (none, y) := by
  refine ct_of (by decide) (Nat.le_of_ble_eq_true rfl) ?_
  intro p e s m args below meth c C hm hr hin
  have C : Cx G cX12_keepsAct RX12 p s m args meth c := C
  refine e_lv (lv2 := [(0, .ref v0)]) [0] rfl ?_
  unfold f_X12_keepsAct at hf
  refine e_aload_n (pc := 0) C dX12_keepsAct_0 0 rfl rfl ?_
  obtain ⟨t1, hf⟩ := ck_e hf
  refine e_geti (pc := 1) 12 55 C dX12_keepsAct_1 (by decide) (by decide) g1456 rfl t1 ?_
  refine e_bipush (v := (20 : Int32)) (pc := 4) C dX12_keepsAct_4 (by decide) ?_
  obtain ⟨j_50, ej_50, hf⟩ := nn_e hf
  have W_50 : ∀ (h_50 : AH), j_50 h_50 = some y → EE G p l e ({ frames := 3, cells := 0, slots := 0, locals := 66 } : Room) s m args below meth c (none, y) 0 0 50 [(0, .ref v0)] [] h_50 0 0 := by
    intro h_50 hf
    rw [ej_50] at hf
    refine e_aload_n (pc := 50) C dX12_keepsAct_50 0 rfl rfl ?_
    refine e_aload_n (pc := 51) C dX12_keepsAct_51 0 rfl rfl ?_
    obtain ⟨t2, hf⟩ := ck_e hf
    refine e_geti (pc := 52) 12 55 C dX12_keepsAct_52 (by decide) (by decide) g1456 rfl t2 ?_
    refine e_iconst (v := (0 : Int32)) (pc := 55) C dX12_keepsAct_55 (by decide) ?_
    obtain ⟨h3, y4, hf⟩ := ob_e hf
    refine e_callVv (pc := 56) (st := []) 12 C (ct_X12_movesAll y4) dX12_keepsAct_56 (by decide) t2 g1924 g1926 g98 g157 g1927 hd_X12_movesAll rfl ⟨Nat.le_of_ble_eq_true rfl, Nat.le_of_ble_eq_true rfl⟩ ⟨Nat.le_of_ble_eq_true rfl, Nat.le_of_ble_eq_true rfl⟩ rfl (Nat.le_of_ble_eq_true rfl) ?_
    refine e_aload_n (pc := 59) C dX12_keepsAct_59 0 rfl rfl ?_
    refine e_dup (pc := 60) C dX12_keepsAct_60 rfl ?_
    obtain ⟨t5, hf⟩ := ck_e hf
    refine e_geti (pc := 61) 12 55 C dX12_keepsAct_61 (by decide) (by decide) g1456 rfl t5 ?_
    refine e_iconst (v := (1 : Int32)) (pc := 64) C dX12_keepsAct_64 (by decide) ?_
    refine e_iadd (pc := 65) C dX12_keepsAct_65 ?_
    refine e_puti (pc := 66) 12 55 C dX12_keepsAct_66 (by decide) (by decide) g1456 rfl rfl rfl rfl t5 ?_
    obtain ⟨h6, eh6, hf⟩ := nn_e hf
    refine e_hp eh6 ?_
    have uh6 : m_t h6 = m_t h3 := by rw [eh6]; exact rfl
    obtain rfl := so_e hf
    exact e_vret (pc := 69) C hr dX12_keepsAct_69 (Nat.le_of_ble_eq_true rfl) (Nat.le_of_ble_eq_true rfl)
  rcases it_e hf with ⟨c7, hf⟩ | ⟨c7, hf⟩
  · refine e_icmp_ne (pc := 6) (tgt := 50) C dX12_keepsAct_6 (by decide) (fun q => absurd c7 q) (fun _ => ?_)
    refine e_bipush (v := (51 : Int32)) (pc := 9) C dX12_keepsAct_9 (by decide) ?_
    refine e_istore_n (pc := 11) (lv2 := [(1, .int (51 : Int32)), (0, .ref v0)]) C hm dX12_keepsAct_11 rfl (by decide) rfl ?_
    refine e_lv (lv2 := [(0, .ref v0), (1, .int (51 : Int32))]) [1, 0] rfl ?_
    refine el_X12_keepsAct_12 C hm hr hin (fun h_40 hf => ?_) bN (51 : Int32) h hf
    refine e_aload_n (pc := 40) C dX12_keepsAct_40 0 rfl rfl ?_
    refine e_dup (pc := 41) C dX12_keepsAct_41 rfl ?_
    obtain ⟨t18, hf⟩ := ck_e hf
    refine e_geti (pc := 42) 12 55 C dX12_keepsAct_42 (by decide) (by decide) g1456 rfl t18 ?_
    refine e_iconst (v := (1 : Int32)) (pc := 45) C dX12_keepsAct_45 (by decide) ?_
    refine e_isub (pc := 46) C dX12_keepsAct_46 ?_
    refine e_puti (pc := 47) 12 55 C dX12_keepsAct_47 (by decide) (by decide) g1456 rfl rfl rfl rfl t18 ?_
    obtain ⟨h19, eh19, hf⟩ := nn_e hf
    refine e_hp eh19 ?_
    have uh19 : m_t h19 = m_t h_40 := by rw [eh19]; exact rfl
    exact W_50 h19 hf
  · refine e_icmp_ne (pc := 6) (tgt := 50) C dX12_keepsAct_6 (by decide) (fun _ => ?_) (fun q => absurd q c7)
    exact W_50 h hf
theorem dX12_undo_0 : decode cX12_undo 0 = .ok (.aload_n 0, 1) := by decide +kernel
theorem dX12_undo_1 : decode cX12_undo 1 = .ok (.getfield 393, 3) := by decide +kernel
theorem dX12_undo_4 : decode cX12_undo 4 = .ok (.ifCond .ne 6, 3) := by decide +kernel
theorem dX12_undo_7 : decode cX12_undo 7 = .ok (.bipush (-2), 2) := by decide +kernel
theorem dX12_undo_9 : decode cX12_undo 9 = .ok (.ireturn, 1) := by decide +kernel
theorem dX12_undo_10 : decode cX12_undo 10 = .ok (.aload_n 0, 1) := by decide +kernel
theorem dX12_undo_11 : decode cX12_undo 11 = .ok (.dup, 1) := by decide +kernel
theorem dX12_undo_12 : decode cX12_undo 12 = .ok (.getfield 393, 3) := by decide +kernel
theorem dX12_undo_15 : decode cX12_undo 15 = .ok (.iconst 1, 1) := by decide +kernel
theorem dX12_undo_16 : decode cX12_undo 16 = .ok (.isub, 1) := by decide +kernel
theorem dX12_undo_17 : decode cX12_undo 17 = .ok (.putfield 393, 3) := by decide +kernel
theorem dX12_undo_20 : decode cX12_undo 20 = .ok (.aload_n 0, 1) := by decide +kernel
theorem dX12_undo_21 : decode cX12_undo 21 = .ok (.aload_n 0, 1) := by decide +kernel
theorem dX12_undo_22 : decode cX12_undo 22 = .ok (.getfield 393, 3) := by decide +kernel
theorem dX12_undo_25 : decode cX12_undo 25 = .ok (.iconst 1, 1) := by decide +kernel
theorem dX12_undo_26 : decode cX12_undo 26 = .ok (.invokevirtual 527, 3) := by decide +kernel
theorem dX12_undo_29 : decode cX12_undo 29 = .ok (.aload_n 0, 1) := by decide +kernel
theorem dX12_undo_30 : decode cX12_undo 30 = .ok (.getfield 393, 3) := by decide +kernel
theorem dX12_undo_33 : decode cX12_undo 33 = .ok (.ireturn, 1) := by decide +kernel
def f_X12_undo (G : GG) (v0 : Nat) (h : AH) : Option (Int32 × AH) :=
ck (m_t h v0 = .inl 12) <|
if (m_i h v0 55) = 0 then (some ((-2 : Int32), h)) else
nn (m_si h v0 55 ((m_i h v0 55) - (1 : Int32))) fun h3 =>
ob (f_X12_movesAll G v0 (m_i h3 v0 55) (1 : Int32) h3) fun h4 =>
ck (m_t h4 v0 = .inl 12) <|
some (m_i h4 v0 55, h4)
set_option maxHeartbeats 4000000 in
set_option maxRecDepth 100000 in
theorem ct_X12_undo {G : GG} {l : Launch} {v0 : Nat} {h : AH} {y : Int32 × AH} (hf : f_X12_undo G v0 h = some y) : Ct G l yX12_undo cX12_undo 1 (some .int) 3 66 0 0 [.ref v0] h (some (.int y.1), y.2) := by
  refine ct_of (by decide) (Nat.le_of_ble_eq_true rfl) ?_
  intro p e s m args below meth c C hm hr hin
  have C : Cx G cX12_undo RX12 p s m args meth c := C
  refine e_lv (lv2 := [(0, .ref v0)]) [0] rfl ?_
  unfold f_X12_undo at hf
  refine e_aload_n (pc := 0) C dX12_undo_0 0 rfl rfl ?_
  obtain ⟨t1, hf⟩ := ck_e hf
  refine e_geti (pc := 1) 12 55 C dX12_undo_1 (by decide) (by decide) g1456 rfl t1 ?_
  rcases it_e hf with ⟨c2, hf⟩ | ⟨c2, hf⟩
  · refine e_if_ne (pc := 4) (tgt := 10) C dX12_undo_4 (by decide) (fun q => absurd c2 q) (fun _ => ?_)
    refine e_bipush (v := (-2 : Int32)) (pc := 7) C dX12_undo_7 (by decide) ?_
    obtain rfl := so_e hf
    exact e_iret (pc := 9) C hr dX12_undo_9 (Nat.le_of_ble_eq_true rfl) (Nat.le_of_ble_eq_true rfl)
  · refine e_if_ne (pc := 4) (tgt := 10) C dX12_undo_4 (by decide) (fun _ => ?_) (fun q => absurd q c2)
    refine e_aload_n (pc := 10) C dX12_undo_10 0 rfl rfl ?_
    refine e_dup (pc := 11) C dX12_undo_11 rfl ?_
    refine e_geti (pc := 12) 12 55 C dX12_undo_12 (by decide) (by decide) g1456 rfl t1 ?_
    refine e_iconst (v := (1 : Int32)) (pc := 15) C dX12_undo_15 (by decide) ?_
    refine e_isub (pc := 16) C dX12_undo_16 ?_
    refine e_puti (pc := 17) 12 55 C dX12_undo_17 (by decide) (by decide) g1456 rfl rfl rfl rfl t1 ?_
    obtain ⟨h3, eh3, hf⟩ := nn_e hf
    refine e_hp eh3 ?_
    have uh3 : m_t h3 = m_t h := by rw [eh3]; exact rfl
    refine e_aload_n (pc := 20) C dX12_undo_20 0 rfl rfl ?_
    refine e_aload_n (pc := 21) C dX12_undo_21 0 rfl rfl ?_
    refine e_geti (pc := 22) 12 55 C dX12_undo_22 (by decide) (by decide) g1456 rfl (e_mt uh3 t1) ?_
    refine e_iconst (v := (1 : Int32)) (pc := 25) C dX12_undo_25 (by decide) ?_
    obtain ⟨h4, y5, hf⟩ := ob_e hf
    refine e_callVv (pc := 26) (st := []) 12 C (ct_X12_movesAll y5) dX12_undo_26 (by decide) (e_mt uh3 t1) g1924 g1926 g98 g157 g1927 hd_X12_movesAll rfl ⟨Nat.le_of_ble_eq_true rfl, Nat.le_of_ble_eq_true rfl⟩ ⟨Nat.le_of_ble_eq_true rfl, Nat.le_of_ble_eq_true rfl⟩ rfl (Nat.le_of_ble_eq_true rfl) ?_
    refine e_aload_n (pc := 29) C dX12_undo_29 0 rfl rfl ?_
    obtain ⟨t6, hf⟩ := ck_e hf
    refine e_geti (pc := 30) 12 55 C dX12_undo_30 (by decide) (by decide) g1456 rfl t6 ?_
    obtain rfl := so_e hf
    exact e_iret (pc := 33) C hr dX12_undo_33 (Nat.le_of_ble_eq_true rfl) (Nat.le_of_ble_eq_true rfl)
theorem dX12_mile_0 : decode cX12_mile 0 = .ok (.aload_n 0, 1) := by decide +kernel
theorem dX12_mile_1 : decode cX12_mile 1 = .ok (.invokevirtual 468, 3) := by decide +kernel
theorem dX12_mile_4 : decode cX12_mile 4 = .ok (.ifCond .eq 10, 3) := by decide +kernel
theorem dX12_mile_7 : decode cX12_mile 7 = .ok (.aload_n 0, 1) := by decide +kernel
theorem dX12_mile_8 : decode cX12_mile 8 = .ok (.invokevirtual 531, 3) := by decide +kernel
theorem dX12_mile_11 : decode cX12_mile 11 = .ok (.ifCond .ne 5, 3) := by decide +kernel
theorem dX12_mile_14 : decode cX12_mile 14 = .ok (.iconst (-1), 1) := by decide +kernel
theorem dX12_mile_15 : decode cX12_mile 15 = .ok (.ireturn, 1) := by decide +kernel
theorem dX12_mile_16 : decode cX12_mile 16 = .ok (.aload_n 0, 1) := by decide +kernel
theorem dX12_mile_17 : decode cX12_mile 17 = .ok (.invokevirtual 534, 3) := by decide +kernel
theorem dX12_mile_20 : decode cX12_mile 20 = .ok (.aload_n 0, 1) := by decide +kernel
theorem dX12_mile_21 : decode cX12_mile 21 = .ok (.invokevirtual 537, 3) := by decide +kernel
theorem dX12_mile_24 : decode cX12_mile 24 = .ok (.ireturn, 1) := by decide +kernel
def f_X12_mile (G : GG) (v0 : Nat) (h : AH) : Option (Int32 × AH) :=
ck (m_t h v0 = .inl 12) <|
cb (f_X12_isTrain G v0 h) fun r4 h2 =>
if r4 = 0 then (some ((-1 : Int32), h2)) else
ck (m_t h2 v0 = .inl 12) <|
cb (f_X12_milesLeft G v0 h2) fun r9 h7 =>
if r9 = 0 then (some ((-1 : Int32), h7)) else
ck (m_t h7 v0 = .inl 12) <|
ob (f_X12_keepsAct G v0 h7) fun h12 =>
ck (m_t h12 v0 = .inl 12) <|
cb (f_X12_mileGoes G v0 h12) fun r17 h15 =>
some (r17, h15)
set_option maxHeartbeats 4000000 in
set_option maxRecDepth 100000 in
theorem ct_X12_mile {G : GG} {l : Launch} {v0 : Nat} {h : AH} {y : Int32 × AH} (hf : f_X12_mile G v0 h = some y) : Ct G l yX12_mile cX12_mile 1 (some .int) 6 137 0 0 [.ref v0] h (some (.int y.1), y.2) := by
  refine ct_of (by decide) (Nat.le_of_ble_eq_true rfl) ?_
  intro p e s m args below meth c C hm hr hin
  have C : Cx G cX12_mile RX12 p s m args meth c := C
  refine e_lv (lv2 := [(0, .ref v0)]) [0] rfl ?_
  unfold f_X12_mile at hf
  refine e_aload_n (pc := 0) C dX12_mile_0 0 rfl rfl ?_
  obtain ⟨t1, hf⟩ := ck_e hf
  obtain ⟨r4, h2, y3, hf⟩ := cb_e hf
  refine e_callVi (pc := 1) (st := []) 12 C (ct_X12_isTrain y3) dX12_mile_1 (by decide) t1 g1907 g1909 g96 g157 g1910 hd_X12_isTrain rfl ⟨Nat.le_of_ble_eq_true rfl, Nat.le_of_ble_eq_true rfl⟩ ⟨Nat.le_of_ble_eq_true rfl, Nat.le_of_ble_eq_true rfl⟩ rfl (Nat.le_of_ble_eq_true rfl) ?_
  rcases it_e hf with ⟨c5, hf⟩ | ⟨c5, hf⟩
  · refine e_if_eq (pc := 4) (tgt := 14) C dX12_mile_4 (by decide) (fun _ => ?_) (fun q => absurd c5 q)
    refine e_iconst (v := (-1 : Int32)) (pc := 14) C dX12_mile_14 (by decide) ?_
    obtain rfl := so_e hf
    exact e_iret (pc := 15) C hr dX12_mile_15 (Nat.le_of_ble_eq_true rfl) (Nat.le_of_ble_eq_true rfl)
  · refine e_if_eq (pc := 4) (tgt := 14) C dX12_mile_4 (by decide) (fun q => absurd q c5) (fun _ => ?_)
    refine e_aload_n (pc := 7) C dX12_mile_7 0 rfl rfl ?_
    obtain ⟨t6, hf⟩ := ck_e hf
    obtain ⟨r9, h7, y8, hf⟩ := cb_e hf
    refine e_callVi (pc := 8) (st := []) 12 C (ct_X12_milesLeft y8) dX12_mile_8 (by decide) t6 g1940 g1942 g101 g157 g1943 hd_X12_milesLeft rfl ⟨Nat.le_of_ble_eq_true rfl, Nat.le_of_ble_eq_true rfl⟩ ⟨Nat.le_of_ble_eq_true rfl, Nat.le_of_ble_eq_true rfl⟩ rfl (Nat.le_of_ble_eq_true rfl) ?_
    rcases it_e hf with ⟨c10, hf⟩ | ⟨c10, hf⟩
    · refine e_if_ne (pc := 11) (tgt := 16) C dX12_mile_11 (by decide) (fun q => absurd c10 q) (fun _ => ?_)
      refine e_iconst (v := (-1 : Int32)) (pc := 14) C dX12_mile_14 (by decide) ?_
      obtain rfl := so_e hf
      exact e_iret (pc := 15) C hr dX12_mile_15 (Nat.le_of_ble_eq_true rfl) (Nat.le_of_ble_eq_true rfl)
    · refine e_if_ne (pc := 11) (tgt := 16) C dX12_mile_11 (by decide) (fun _ => ?_) (fun q => absurd q c10)
      refine e_aload_n (pc := 16) C dX12_mile_16 0 rfl rfl ?_
      obtain ⟨t11, hf⟩ := ck_e hf
      obtain ⟨h12, y13, hf⟩ := ob_e hf
      refine e_callVv (pc := 17) (st := []) 12 C (ct_X12_keepsAct y13) dX12_mile_17 (by decide) t11 g1944 g1946 g102 g157 g1947 hd_X12_keepsAct rfl ⟨Nat.le_of_ble_eq_true rfl, Nat.le_of_ble_eq_true rfl⟩ ⟨Nat.le_of_ble_eq_true rfl, Nat.le_of_ble_eq_true rfl⟩ rfl (Nat.le_of_ble_eq_true rfl) ?_
      refine e_aload_n (pc := 20) C dX12_mile_20 0 rfl rfl ?_
      obtain ⟨t14, hf⟩ := ck_e hf
      obtain ⟨r17, h15, y16, hf⟩ := cb_e hf
      refine e_callVi (pc := 21) (st := []) 12 C (ct_X12_mileGoes y16) dX12_mile_21 (by decide) t14 g1948 g1950 g103 g157 g1951 hd_X12_mileGoes rfl ⟨Nat.le_of_ble_eq_true rfl, Nat.le_of_ble_eq_true rfl⟩ ⟨Nat.le_of_ble_eq_true rfl, Nat.le_of_ble_eq_true rfl⟩ rfl (Nat.le_of_ble_eq_true rfl) ?_
      obtain rfl := so_e hf
      exact e_iret (pc := 24) C hr dX12_mile_24 (Nat.le_of_ble_eq_true rfl) (Nat.le_of_ble_eq_true rfl)
theorem dX12_pull_0 : decode cX12_pull 0 = .ok (.aload_n 0, 1) := by decide +kernel
theorem dX12_pull_1 : decode cX12_pull 1 = .ok (.invokevirtual 468, 3) := by decide +kernel
theorem dX12_pull_4 : decode cX12_pull 4 = .ok (.ifCond .eq 26, 3) := by decide +kernel
theorem dX12_pull_7 : decode cX12_pull 7 = .ok (.iload_n 1, 1) := by decide +kernel
theorem dX12_pull_8 : decode cX12_pull 8 = .ok (.i2l, 1) := by decide +kernel
theorem dX12_pull_9 : decode cX12_pull 9 = .ok (.lconst 0, 1) := by decide +kernel
theorem dX12_pull_10 : decode cX12_pull 10 = .ok (.ldc2_w 466, 3) := by decide +kernel
theorem dX12_pull_13 : decode cX12_pull 13 = .ok (.invokestatic 206, 3) := by decide +kernel
theorem dX12_pull_16 : decode cX12_pull 16 = .ok (.ifCond .eq 14, 3) := by decide +kernel
theorem dX12_pull_19 : decode cX12_pull 19 = .ok (.iload_n 1, 1) := by decide +kernel
theorem dX12_pull_20 : decode cX12_pull 20 = .ok (.aload_n 0, 1) := by decide +kernel
theorem dX12_pull_21 : decode cX12_pull 21 = .ok (.getfield 9, 3) := by decide +kernel
theorem dX12_pull_24 : decode cX12_pull 24 = .ok (.bipush 13, 2) := by decide +kernel
theorem dX12_pull_26 : decode cX12_pull 26 = .ok (.iaload, 1) := by decide +kernel
theorem dX12_pull_27 : decode cX12_pull 27 = .ok (.if_icmp .ne 5, 3) := by decide +kernel
theorem dX12_pull_30 : decode cX12_pull 30 = .ok (.iconst (-1), 1) := by decide +kernel
theorem dX12_pull_31 : decode cX12_pull 31 = .ok (.ireturn, 1) := by decide +kernel
theorem dX12_pull_32 : decode cX12_pull 32 = .ok (.aload_n 0, 1) := by decide +kernel
theorem dX12_pull_33 : decode cX12_pull 33 = .ok (.invokevirtual 534, 3) := by decide +kernel
theorem dX12_pull_36 : decode cX12_pull 36 = .ok (.aload_n 0, 1) := by decide +kernel
theorem dX12_pull_37 : decode cX12_pull 37 = .ok (.getfield 9, 3) := by decide +kernel
theorem dX12_pull_40 : decode cX12_pull 40 = .ok (.bipush 13, 2) := by decide +kernel
theorem dX12_pull_42 : decode cX12_pull 42 = .ok (.iaload, 1) := by decide +kernel
theorem dX12_pull_43 : decode cX12_pull 43 = .ok (.istore_n 2, 1) := by decide +kernel
theorem dX12_pull_44 : decode cX12_pull 44 = .ok (.aload_n 0, 1) := by decide +kernel
theorem dX12_pull_45 : decode cX12_pull 45 = .ok (.getfield 9, 3) := by decide +kernel
theorem dX12_pull_48 : decode cX12_pull 48 = .ok (.bipush 13, 2) := by decide +kernel
theorem dX12_pull_50 : decode cX12_pull 50 = .ok (.iload_n 1, 1) := by decide +kernel
theorem dX12_pull_51 : decode cX12_pull 51 = .ok (.iastore, 1) := by decide +kernel
theorem dX12_pull_52 : decode cX12_pull 52 = .ok (.iload_n 2, 1) := by decide +kernel
theorem dX12_pull_53 : decode cX12_pull 53 = .ok (.ireturn, 1) := by decide +kernel
def f_X12_pull (G : GG) (v0 : Nat) (v1 : Int32) (h : AH) : Option (Int32 × AH) :=
ck (m_t h v0 = .inl 12) <|
cb (f_X12_isTrain G v0 h) fun r4 h2 =>
if r4 = 0 then (some ((-1 : Int32), h2)) else
cb (f_X12_in G v1.toInt64 (0 : Int64) (5 : Int64) h2) fun r8 h6 =>
if r8 = 0 then (some ((-1 : Int32), h6)) else
ck (m_t h6 v0 = .inl 12) <|
ob (m_r h6 v0 1) fun b11 =>
ck (ixb h6 b11 .int (13 : Int32) = true) <|
if v1 = (m_i h6 b11 (13 : Int32).toNatClampNeg) then (some ((-1 : Int32), h6)) else
ob (f_X12_keepsAct G v0 h6) fun h15 =>
ck (m_t h15 v0 = .inl 12) <|
ob (m_r h15 v0 1) fun b18 =>
ck (ixb h15 b18 .int (13 : Int32) = true) <|
nn (m_i h15 b18 (13 : Int32).toNatClampNeg) fun x21 =>
ob (m_r h15 v0 1) fun b22 =>
ck (ixb h15 b22 .int (13 : Int32) = true) <|
nn (m_si h15 b22 (13 : Int32).toNatClampNeg v1) fun h25 =>
some (x21, h25)
set_option maxHeartbeats 4000000 in
set_option maxRecDepth 100000 in
theorem ct_X12_pull {G : GG} {l : Launch} {v0 : Nat} {v1 : Int32} {h : AH} {y : Int32 × AH} (hf : f_X12_pull G v0 v1 h = some y) : Ct G l yX12_pull cX12_pull 3 (some .int) 4 87 0 0 [.ref v0, .int v1] h (some (.int y.1), y.2) := by
  refine ct_of (by decide) (Nat.le_of_ble_eq_true rfl) ?_
  intro p e s m args below meth c C hm hr hin
  have C : Cx G cX12_pull RX12 p s m args meth c := C
  refine e_lv (lv2 := [(0, .ref v0), (1, .int v1)]) [0, 1] rfl ?_
  unfold f_X12_pull at hf
  refine e_aload_n (pc := 0) C dX12_pull_0 0 rfl rfl ?_
  obtain ⟨t1, hf⟩ := ck_e hf
  obtain ⟨r4, h2, y3, hf⟩ := cb_e hf
  refine e_callVi (pc := 1) (st := []) 12 C (ct_X12_isTrain y3) dX12_pull_1 (by decide) t1 g1907 g1909 g96 g157 g1910 hd_X12_isTrain rfl ⟨Nat.le_of_ble_eq_true rfl, Nat.le_of_ble_eq_true rfl⟩ ⟨Nat.le_of_ble_eq_true rfl, Nat.le_of_ble_eq_true rfl⟩ rfl (Nat.le_of_ble_eq_true rfl) ?_
  rcases it_e hf with ⟨c5, hf⟩ | ⟨c5, hf⟩
  · refine e_if_eq (pc := 4) (tgt := 30) C dX12_pull_4 (by decide) (fun _ => ?_) (fun q => absurd c5 q)
    refine e_iconst (v := (-1 : Int32)) (pc := 30) C dX12_pull_30 (by decide) ?_
    obtain rfl := so_e hf
    exact e_iret (pc := 31) C hr dX12_pull_31 (Nat.le_of_ble_eq_true rfl) (Nat.le_of_ble_eq_true rfl)
  · refine e_if_eq (pc := 4) (tgt := 30) C dX12_pull_4 (by decide) (fun q => absurd q c5) (fun _ => ?_)
    refine e_iload_n (pc := 7) C dX12_pull_7 1 rfl rfl ?_
    refine e_i2l (pc := 8) C dX12_pull_8 ?_
    refine e_lconst (v := (0 : Int64)) (pc := 9) C dX12_pull_9 (by decide) ?_
    refine e_ldc2 (pc := 10) C dX12_pull_10 g1902 ?_
    obtain ⟨r8, h6, y7, hf⟩ := cb_e hf
    refine e_callSi (pc := 13) (st := []) C (ct_X12_in y7) dX12_pull_13 g1737 g1738 g157 g1739 hd_X12_in rfl ⟨Nat.le_of_ble_eq_true rfl, Nat.le_of_ble_eq_true rfl⟩ ⟨Nat.le_of_ble_eq_true rfl, Nat.le_of_ble_eq_true rfl⟩ rfl (Nat.le_of_ble_eq_true rfl) ?_
    rcases it_e hf with ⟨c9, hf⟩ | ⟨c9, hf⟩
    · refine e_if_eq (pc := 16) (tgt := 30) C dX12_pull_16 (by decide) (fun _ => ?_) (fun q => absurd c9 q)
      refine e_iconst (v := (-1 : Int32)) (pc := 30) C dX12_pull_30 (by decide) ?_
      obtain rfl := so_e hf
      exact e_iret (pc := 31) C hr dX12_pull_31 (Nat.le_of_ble_eq_true rfl) (Nat.le_of_ble_eq_true rfl)
    · refine e_if_eq (pc := 16) (tgt := 30) C dX12_pull_16 (by decide) (fun q => absurd q c9) (fun _ => ?_)
      refine e_iload_n (pc := 19) C dX12_pull_19 1 rfl rfl ?_
      refine e_aload_n (pc := 20) C dX12_pull_20 0 rfl rfl ?_
      obtain ⟨t10, hf⟩ := ck_e hf
      refine e_getr (pc := 21) 12 1 C dX12_pull_21 (by decide) (by decide) g1402 rfl t10 ?_
      obtain ⟨b11, eb11, hf⟩ := ob_e hf
      refine e_rf eb11 ?_
      refine e_bipush (v := (13 : Int32)) (pc := 24) C dX12_pull_24 (by decide) ?_
      obtain ⟨q12, hf⟩ := ck_e hf
      obtain ⟨n13, tn13, in13⟩ := ix_e q12
      refine e_iald (pc := 26) C dX12_pull_26 tn13 in13 ?_
      rcases it_e hf with ⟨c14, hf⟩ | ⟨c14, hf⟩
      · refine e_icmp_ne (pc := 27) (tgt := 32) C dX12_pull_27 (by decide) (fun q => absurd c14 q) (fun _ => ?_)
        refine e_iconst (v := (-1 : Int32)) (pc := 30) C dX12_pull_30 (by decide) ?_
        obtain rfl := so_e hf
        exact e_iret (pc := 31) C hr dX12_pull_31 (Nat.le_of_ble_eq_true rfl) (Nat.le_of_ble_eq_true rfl)
      · refine e_icmp_ne (pc := 27) (tgt := 32) C dX12_pull_27 (by decide) (fun _ => ?_) (fun q => absurd q c14)
        refine e_aload_n (pc := 32) C dX12_pull_32 0 rfl rfl ?_
        obtain ⟨h15, y16, hf⟩ := ob_e hf
        refine e_callVv (pc := 33) (st := []) 12 C (ct_X12_keepsAct y16) dX12_pull_33 (by decide) t10 g1944 g1946 g102 g157 g1947 hd_X12_keepsAct rfl ⟨Nat.le_of_ble_eq_true rfl, Nat.le_of_ble_eq_true rfl⟩ ⟨Nat.le_of_ble_eq_true rfl, Nat.le_of_ble_eq_true rfl⟩ rfl (Nat.le_of_ble_eq_true rfl) ?_
        refine e_aload_n (pc := 36) C dX12_pull_36 0 rfl rfl ?_
        obtain ⟨t17, hf⟩ := ck_e hf
        refine e_getr (pc := 37) 12 1 C dX12_pull_37 (by decide) (by decide) g1402 rfl t17 ?_
        obtain ⟨b18, eb18, hf⟩ := ob_e hf
        refine e_rf eb18 ?_
        refine e_bipush (v := (13 : Int32)) (pc := 40) C dX12_pull_40 (by decide) ?_
        obtain ⟨q19, hf⟩ := ck_e hf
        obtain ⟨n20, tn20, in20⟩ := ix_e q19
        refine e_iald (pc := 42) C dX12_pull_42 tn20 in20 ?_
        obtain ⟨x21, ex21, hf⟩ := nn_e hf
        refine e_topi ex21 ?_
        refine e_istore_n (pc := 43) (lv2 := [(2, .int x21), (0, .ref v0), (1, .int v1)]) C hm dX12_pull_43 rfl (by decide) rfl ?_
        refine e_aload_n (pc := 44) C dX12_pull_44 1 rfl rfl ?_
        refine e_getr (pc := 45) 12 1 C dX12_pull_45 (by decide) (by decide) g1402 rfl t17 ?_
        obtain ⟨b22, eb22, hf⟩ := ob_e hf
        refine e_rf eb22 ?_
        refine e_bipush (v := (13 : Int32)) (pc := 48) C dX12_pull_48 (by decide) ?_
        refine e_iload_n (pc := 50) C dX12_pull_50 2 rfl rfl ?_
        obtain ⟨q23, hf⟩ := ck_e hf
        obtain ⟨n24, tn24, in24⟩ := ix_e q23
        refine e_iast (pc := 51) C dX12_pull_51 tn24 in24 ?_
        obtain ⟨h25, eh25, hf⟩ := nn_e hf
        refine e_hp eh25 ?_
        have uh25 : m_t h25 = m_t h15 := by rw [eh25]; exact rfl
        refine e_iload_n (pc := 52) C dX12_pull_52 0 rfl rfl ?_
        obtain rfl := so_e hf
        exact e_iret (pc := 53) C hr dX12_pull_53 (Nat.le_of_ble_eq_true rfl) (Nat.le_of_ble_eq_true rfl)
theorem dX12_turn_0 : decode cX12_turn 0 = .ok (.aload_n 0, 1) := by decide +kernel
theorem dX12_turn_1 : decode cX12_turn 1 = .ok (.invokevirtual 468, 3) := by decide +kernel
theorem dX12_turn_4 : decode cX12_turn 4 = .ok (.ifCond .eq 26, 3) := by decide +kernel
theorem dX12_turn_7 : decode cX12_turn 7 = .ok (.iload_n 1, 1) := by decide +kernel
theorem dX12_turn_8 : decode cX12_turn 8 = .ok (.i2l, 1) := by decide +kernel
theorem dX12_turn_9 : decode cX12_turn 9 = .ok (.lconst 0, 1) := by decide +kernel
theorem dX12_turn_10 : decode cX12_turn 10 = .ok (.ldc2_w 540, 3) := by decide +kernel
theorem dX12_turn_13 : decode cX12_turn 13 = .ok (.invokestatic 206, 3) := by decide +kernel
theorem dX12_turn_16 : decode cX12_turn 16 = .ok (.ifCond .eq 14, 3) := by decide +kernel
theorem dX12_turn_19 : decode cX12_turn 19 = .ok (.iload_n 1, 1) := by decide +kernel
theorem dX12_turn_20 : decode cX12_turn 20 = .ok (.aload_n 0, 1) := by decide +kernel
theorem dX12_turn_21 : decode cX12_turn 21 = .ok (.getfield 9, 3) := by decide +kernel
theorem dX12_turn_24 : decode cX12_turn 24 = .ok (.bipush 12, 2) := by decide +kernel
theorem dX12_turn_26 : decode cX12_turn 26 = .ok (.iaload, 1) := by decide +kernel
theorem dX12_turn_27 : decode cX12_turn 27 = .ok (.if_icmp .ne 5, 3) := by decide +kernel
theorem dX12_turn_30 : decode cX12_turn 30 = .ok (.iconst (-1), 1) := by decide +kernel
theorem dX12_turn_31 : decode cX12_turn 31 = .ok (.ireturn, 1) := by decide +kernel
theorem dX12_turn_32 : decode cX12_turn 32 = .ok (.aload_n 0, 1) := by decide +kernel
theorem dX12_turn_33 : decode cX12_turn 33 = .ok (.invokevirtual 534, 3) := by decide +kernel
theorem dX12_turn_36 : decode cX12_turn 36 = .ok (.aload_n 0, 1) := by decide +kernel
theorem dX12_turn_37 : decode cX12_turn 37 = .ok (.getfield 9, 3) := by decide +kernel
theorem dX12_turn_40 : decode cX12_turn 40 = .ok (.bipush 12, 2) := by decide +kernel
theorem dX12_turn_42 : decode cX12_turn 42 = .ok (.iaload, 1) := by decide +kernel
theorem dX12_turn_43 : decode cX12_turn 43 = .ok (.istore_n 2, 1) := by decide +kernel
theorem dX12_turn_44 : decode cX12_turn 44 = .ok (.aload_n 0, 1) := by decide +kernel
theorem dX12_turn_45 : decode cX12_turn 45 = .ok (.getfield 9, 3) := by decide +kernel
theorem dX12_turn_48 : decode cX12_turn 48 = .ok (.bipush 12, 2) := by decide +kernel
theorem dX12_turn_50 : decode cX12_turn 50 = .ok (.iload_n 1, 1) := by decide +kernel
theorem dX12_turn_51 : decode cX12_turn 51 = .ok (.iastore, 1) := by decide +kernel
theorem dX12_turn_52 : decode cX12_turn 52 = .ok (.iload_n 2, 1) := by decide +kernel
theorem dX12_turn_53 : decode cX12_turn 53 = .ok (.ireturn, 1) := by decide +kernel
def f_X12_turn (G : GG) (v0 : Nat) (v1 : Int32) (h : AH) : Option (Int32 × AH) :=
ck (m_t h v0 = .inl 12) <|
cb (f_X12_isTrain G v0 h) fun r4 h2 =>
if r4 = 0 then (some ((-1 : Int32), h2)) else
cb (f_X12_in G v1.toInt64 (0 : Int64) (3 : Int64) h2) fun r8 h6 =>
if r8 = 0 then (some ((-1 : Int32), h6)) else
ck (m_t h6 v0 = .inl 12) <|
ob (m_r h6 v0 1) fun b11 =>
ck (ixb h6 b11 .int (12 : Int32) = true) <|
if v1 = (m_i h6 b11 (12 : Int32).toNatClampNeg) then (some ((-1 : Int32), h6)) else
ob (f_X12_keepsAct G v0 h6) fun h15 =>
ck (m_t h15 v0 = .inl 12) <|
ob (m_r h15 v0 1) fun b18 =>
ck (ixb h15 b18 .int (12 : Int32) = true) <|
nn (m_i h15 b18 (12 : Int32).toNatClampNeg) fun x21 =>
ob (m_r h15 v0 1) fun b22 =>
ck (ixb h15 b22 .int (12 : Int32) = true) <|
nn (m_si h15 b22 (12 : Int32).toNatClampNeg v1) fun h25 =>
some (x21, h25)
set_option maxHeartbeats 4000000 in
set_option maxRecDepth 100000 in
theorem ct_X12_turn {G : GG} {l : Launch} {v0 : Nat} {v1 : Int32} {h : AH} {y : Int32 × AH} (hf : f_X12_turn G v0 v1 h = some y) : Ct G l yX12_turn cX12_turn 3 (some .int) 4 87 0 0 [.ref v0, .int v1] h (some (.int y.1), y.2) := by
  refine ct_of (by decide) (Nat.le_of_ble_eq_true rfl) ?_
  intro p e s m args below meth c C hm hr hin
  have C : Cx G cX12_turn RX12 p s m args meth c := C
  refine e_lv (lv2 := [(0, .ref v0), (1, .int v1)]) [0, 1] rfl ?_
  unfold f_X12_turn at hf
  refine e_aload_n (pc := 0) C dX12_turn_0 0 rfl rfl ?_
  obtain ⟨t1, hf⟩ := ck_e hf
  obtain ⟨r4, h2, y3, hf⟩ := cb_e hf
  refine e_callVi (pc := 1) (st := []) 12 C (ct_X12_isTrain y3) dX12_turn_1 (by decide) t1 g1907 g1909 g96 g157 g1910 hd_X12_isTrain rfl ⟨Nat.le_of_ble_eq_true rfl, Nat.le_of_ble_eq_true rfl⟩ ⟨Nat.le_of_ble_eq_true rfl, Nat.le_of_ble_eq_true rfl⟩ rfl (Nat.le_of_ble_eq_true rfl) ?_
  rcases it_e hf with ⟨c5, hf⟩ | ⟨c5, hf⟩
  · refine e_if_eq (pc := 4) (tgt := 30) C dX12_turn_4 (by decide) (fun _ => ?_) (fun q => absurd c5 q)
    refine e_iconst (v := (-1 : Int32)) (pc := 30) C dX12_turn_30 (by decide) ?_
    obtain rfl := so_e hf
    exact e_iret (pc := 31) C hr dX12_turn_31 (Nat.le_of_ble_eq_true rfl) (Nat.le_of_ble_eq_true rfl)
  · refine e_if_eq (pc := 4) (tgt := 30) C dX12_turn_4 (by decide) (fun q => absurd q c5) (fun _ => ?_)
    refine e_iload_n (pc := 7) C dX12_turn_7 1 rfl rfl ?_
    refine e_i2l (pc := 8) C dX12_turn_8 ?_
    refine e_lconst (v := (0 : Int64)) (pc := 9) C dX12_turn_9 (by decide) ?_
    refine e_ldc2 (pc := 10) C dX12_turn_10 g2008 ?_
    obtain ⟨r8, h6, y7, hf⟩ := cb_e hf
    refine e_callSi (pc := 13) (st := []) C (ct_X12_in y7) dX12_turn_13 g1737 g1738 g157 g1739 hd_X12_in rfl ⟨Nat.le_of_ble_eq_true rfl, Nat.le_of_ble_eq_true rfl⟩ ⟨Nat.le_of_ble_eq_true rfl, Nat.le_of_ble_eq_true rfl⟩ rfl (Nat.le_of_ble_eq_true rfl) ?_
    rcases it_e hf with ⟨c9, hf⟩ | ⟨c9, hf⟩
    · refine e_if_eq (pc := 16) (tgt := 30) C dX12_turn_16 (by decide) (fun _ => ?_) (fun q => absurd c9 q)
      refine e_iconst (v := (-1 : Int32)) (pc := 30) C dX12_turn_30 (by decide) ?_
      obtain rfl := so_e hf
      exact e_iret (pc := 31) C hr dX12_turn_31 (Nat.le_of_ble_eq_true rfl) (Nat.le_of_ble_eq_true rfl)
    · refine e_if_eq (pc := 16) (tgt := 30) C dX12_turn_16 (by decide) (fun q => absurd q c9) (fun _ => ?_)
      refine e_iload_n (pc := 19) C dX12_turn_19 1 rfl rfl ?_
      refine e_aload_n (pc := 20) C dX12_turn_20 0 rfl rfl ?_
      obtain ⟨t10, hf⟩ := ck_e hf
      refine e_getr (pc := 21) 12 1 C dX12_turn_21 (by decide) (by decide) g1402 rfl t10 ?_
      obtain ⟨b11, eb11, hf⟩ := ob_e hf
      refine e_rf eb11 ?_
      refine e_bipush (v := (12 : Int32)) (pc := 24) C dX12_turn_24 (by decide) ?_
      obtain ⟨q12, hf⟩ := ck_e hf
      obtain ⟨n13, tn13, in13⟩ := ix_e q12
      refine e_iald (pc := 26) C dX12_turn_26 tn13 in13 ?_
      rcases it_e hf with ⟨c14, hf⟩ | ⟨c14, hf⟩
      · refine e_icmp_ne (pc := 27) (tgt := 32) C dX12_turn_27 (by decide) (fun q => absurd c14 q) (fun _ => ?_)
        refine e_iconst (v := (-1 : Int32)) (pc := 30) C dX12_turn_30 (by decide) ?_
        obtain rfl := so_e hf
        exact e_iret (pc := 31) C hr dX12_turn_31 (Nat.le_of_ble_eq_true rfl) (Nat.le_of_ble_eq_true rfl)
      · refine e_icmp_ne (pc := 27) (tgt := 32) C dX12_turn_27 (by decide) (fun _ => ?_) (fun q => absurd q c14)
        refine e_aload_n (pc := 32) C dX12_turn_32 0 rfl rfl ?_
        obtain ⟨h15, y16, hf⟩ := ob_e hf
        refine e_callVv (pc := 33) (st := []) 12 C (ct_X12_keepsAct y16) dX12_turn_33 (by decide) t10 g1944 g1946 g102 g157 g1947 hd_X12_keepsAct rfl ⟨Nat.le_of_ble_eq_true rfl, Nat.le_of_ble_eq_true rfl⟩ ⟨Nat.le_of_ble_eq_true rfl, Nat.le_of_ble_eq_true rfl⟩ rfl (Nat.le_of_ble_eq_true rfl) ?_
        refine e_aload_n (pc := 36) C dX12_turn_36 0 rfl rfl ?_
        obtain ⟨t17, hf⟩ := ck_e hf
        refine e_getr (pc := 37) 12 1 C dX12_turn_37 (by decide) (by decide) g1402 rfl t17 ?_
        obtain ⟨b18, eb18, hf⟩ := ob_e hf
        refine e_rf eb18 ?_
        refine e_bipush (v := (12 : Int32)) (pc := 40) C dX12_turn_40 (by decide) ?_
        obtain ⟨q19, hf⟩ := ck_e hf
        obtain ⟨n20, tn20, in20⟩ := ix_e q19
        refine e_iald (pc := 42) C dX12_turn_42 tn20 in20 ?_
        obtain ⟨x21, ex21, hf⟩ := nn_e hf
        refine e_topi ex21 ?_
        refine e_istore_n (pc := 43) (lv2 := [(2, .int x21), (0, .ref v0), (1, .int v1)]) C hm dX12_turn_43 rfl (by decide) rfl ?_
        refine e_aload_n (pc := 44) C dX12_turn_44 1 rfl rfl ?_
        refine e_getr (pc := 45) 12 1 C dX12_turn_45 (by decide) (by decide) g1402 rfl t17 ?_
        obtain ⟨b22, eb22, hf⟩ := ob_e hf
        refine e_rf eb22 ?_
        refine e_bipush (v := (12 : Int32)) (pc := 48) C dX12_turn_48 (by decide) ?_
        refine e_iload_n (pc := 50) C dX12_turn_50 2 rfl rfl ?_
        obtain ⟨q23, hf⟩ := ck_e hf
        obtain ⟨n24, tn24, in24⟩ := ix_e q23
        refine e_iast (pc := 51) C dX12_turn_51 tn24 in24 ?_
        obtain ⟨h25, eh25, hf⟩ := nn_e hf
        refine e_hp eh25 ?_
        have uh25 : m_t h25 = m_t h15 := by rw [eh25]; exact rfl
        refine e_iload_n (pc := 52) C dX12_turn_52 0 rfl rfl ?_
        obtain rfl := so_e hf
        exact e_iret (pc := 53) C hr dX12_turn_53 (Nat.le_of_ble_eq_true rfl) (Nat.le_of_ble_eq_true rfl)
theorem dX12_seats_0 : decode cX12_seats 0 = .ok (.aload_n 0, 1) := by decide +kernel
theorem dX12_seats_1 : decode cX12_seats 1 = .ok (.iload_n 1, 1) := by decide +kernel
theorem dX12_seats_2 : decode cX12_seats 2 = .ok (.invokevirtual 452, 3) := by decide +kernel
theorem dX12_seats_5 : decode cX12_seats 5 = .ok (.ifCond .eq 52, 3) := by decide +kernel
theorem dX12_seats_8 : decode cX12_seats 8 = .ok (.aload_n 0, 1) := by decide +kernel
theorem dX12_seats_9 : decode cX12_seats 9 = .ok (.iload_n 2, 1) := by decide +kernel
theorem dX12_seats_10 : decode cX12_seats 10 = .ok (.invokevirtual 452, 3) := by decide +kernel
theorem dX12_seats_13 : decode cX12_seats 13 = .ok (.ifCond .eq 44, 3) := by decide +kernel
theorem dX12_seats_16 : decode cX12_seats 16 = .ok (.iload_n 1, 1) := by decide +kernel
theorem dX12_seats_17 : decode cX12_seats 17 = .ok (.iload_n 2, 1) := by decide +kernel
theorem dX12_seats_18 : decode cX12_seats 18 = .ok (.if_icmp .eq 39, 3) := by decide +kernel
theorem dX12_seats_21 : decode cX12_seats 21 = .ok (.aload_n 0, 1) := by decide +kernel
theorem dX12_seats_22 : decode cX12_seats 22 = .ok (.iload_n 1, 1) := by decide +kernel
theorem dX12_seats_23 : decode cX12_seats 23 = .ok (.invokevirtual 449, 3) := by decide +kernel
theorem dX12_seats_26 : decode cX12_seats 26 = .ok (.ifCond .eq 31, 3) := by decide +kernel
theorem dX12_seats_29 : decode cX12_seats 29 = .ok (.aload_n 0, 1) := by decide +kernel
theorem dX12_seats_30 : decode cX12_seats 30 = .ok (.iload_n 2, 1) := by decide +kernel
theorem dX12_seats_31 : decode cX12_seats 31 = .ok (.invokevirtual 449, 3) := by decide +kernel
theorem dX12_seats_34 : decode cX12_seats 34 = .ok (.ifCond .eq 23, 3) := by decide +kernel
theorem dX12_seats_37 : decode cX12_seats 37 = .ok (.aload_n 0, 1) := by decide +kernel
theorem dX12_seats_38 : decode cX12_seats 38 = .ok (.getfield 34, 3) := by decide +kernel
theorem dX12_seats_41 : decode cX12_seats 41 = .ok (.iload_n 1, 1) := by decide +kernel
theorem dX12_seats_42 : decode cX12_seats 42 = .ok (.iaload, 1) := by decide +kernel
theorem dX12_seats_43 : decode cX12_seats 43 = .ok (.iconst (-1), 1) := by decide +kernel
theorem dX12_seats_44 : decode cX12_seats 44 = .ok (.if_icmp .ne 15, 3) := by decide +kernel
theorem dX12_seats_47 : decode cX12_seats 47 = .ok (.aload_n 0, 1) := by decide +kernel
theorem dX12_seats_48 : decode cX12_seats 48 = .ok (.getfield 34, 3) := by decide +kernel
theorem dX12_seats_51 : decode cX12_seats 51 = .ok (.iload_n 2, 1) := by decide +kernel
theorem dX12_seats_52 : decode cX12_seats 52 = .ok (.iaload, 1) := by decide +kernel
theorem dX12_seats_53 : decode cX12_seats 53 = .ok (.iconst (-1), 1) := by decide +kernel
theorem dX12_seats_54 : decode cX12_seats 54 = .ok (.if_icmp .ne 5, 3) := by decide +kernel
theorem dX12_seats_57 : decode cX12_seats 57 = .ok (.iconst 0, 1) := by decide +kernel
theorem dX12_seats_58 : decode cX12_seats 58 = .ok (.ireturn, 1) := by decide +kernel
theorem dX12_seats_59 : decode cX12_seats 59 = .ok (.aload_n 0, 1) := by decide +kernel
theorem dX12_seats_60 : decode cX12_seats 60 = .ok (.iload_n 1, 1) := by decide +kernel
theorem dX12_seats_61 : decode cX12_seats 61 = .ok (.aload_n 0, 1) := by decide +kernel
theorem dX12_seats_62 : decode cX12_seats 62 = .ok (.getfield 34, 3) := by decide +kernel
theorem dX12_seats_65 : decode cX12_seats 65 = .ok (.iload_n 2, 1) := by decide +kernel
theorem dX12_seats_66 : decode cX12_seats 66 = .ok (.iaload, 1) := by decide +kernel
theorem dX12_seats_67 : decode cX12_seats 67 = .ok (.invokevirtual 479, 3) := by decide +kernel
theorem dX12_seats_70 : decode cX12_seats 70 = .ok (.ifCond .eq 17, 3) := by decide +kernel
theorem dX12_seats_73 : decode cX12_seats 73 = .ok (.aload_n 0, 1) := by decide +kernel
theorem dX12_seats_74 : decode cX12_seats 74 = .ok (.iload_n 2, 1) := by decide +kernel
theorem dX12_seats_75 : decode cX12_seats 75 = .ok (.aload_n 0, 1) := by decide +kernel
theorem dX12_seats_76 : decode cX12_seats 76 = .ok (.getfield 34, 3) := by decide +kernel
theorem dX12_seats_79 : decode cX12_seats 79 = .ok (.iload_n 1, 1) := by decide +kernel
theorem dX12_seats_80 : decode cX12_seats 80 = .ok (.iaload, 1) := by decide +kernel
theorem dX12_seats_81 : decode cX12_seats 81 = .ok (.invokevirtual 479, 3) := by decide +kernel
theorem dX12_seats_84 : decode cX12_seats 84 = .ok (.ifCond .ne 5, 3) := by decide +kernel
theorem dX12_seats_87 : decode cX12_seats 87 = .ok (.iconst 0, 1) := by decide +kernel
theorem dX12_seats_88 : decode cX12_seats 88 = .ok (.ireturn, 1) := by decide +kernel
theorem dX12_seats_89 : decode cX12_seats 89 = .ok (.aload_n 0, 1) := by decide +kernel
theorem dX12_seats_90 : decode cX12_seats 90 = .ok (.invokevirtual 534, 3) := by decide +kernel
theorem dX12_seats_93 : decode cX12_seats 93 = .ok (.aload_n 0, 1) := by decide +kernel
theorem dX12_seats_94 : decode cX12_seats 94 = .ok (.getfield 34, 3) := by decide +kernel
theorem dX12_seats_97 : decode cX12_seats 97 = .ok (.iload_n 1, 1) := by decide +kernel
theorem dX12_seats_98 : decode cX12_seats 98 = .ok (.iaload, 1) := by decide +kernel
theorem dX12_seats_99 : decode cX12_seats 99 = .ok (.istore_n 3, 1) := by decide +kernel
theorem dX12_seats_100 : decode cX12_seats 100 = .ok (.aload_n 0, 1) := by decide +kernel
theorem dX12_seats_101 : decode cX12_seats 101 = .ok (.getfield 34, 3) := by decide +kernel
theorem dX12_seats_104 : decode cX12_seats 104 = .ok (.iload_n 1, 1) := by decide +kernel
theorem dX12_seats_105 : decode cX12_seats 105 = .ok (.aload_n 0, 1) := by decide +kernel
theorem dX12_seats_106 : decode cX12_seats 106 = .ok (.getfield 34, 3) := by decide +kernel
theorem dX12_seats_109 : decode cX12_seats 109 = .ok (.iload_n 2, 1) := by decide +kernel
theorem dX12_seats_110 : decode cX12_seats 110 = .ok (.iaload, 1) := by decide +kernel
theorem dX12_seats_111 : decode cX12_seats 111 = .ok (.iastore, 1) := by decide +kernel
theorem dX12_seats_112 : decode cX12_seats 112 = .ok (.aload_n 0, 1) := by decide +kernel
theorem dX12_seats_113 : decode cX12_seats 113 = .ok (.getfield 34, 3) := by decide +kernel
theorem dX12_seats_116 : decode cX12_seats 116 = .ok (.iload_n 2, 1) := by decide +kernel
theorem dX12_seats_117 : decode cX12_seats 117 = .ok (.iload_n 3, 1) := by decide +kernel
theorem dX12_seats_118 : decode cX12_seats 118 = .ok (.iastore, 1) := by decide +kernel
theorem dX12_seats_119 : decode cX12_seats 119 = .ok (.iconst 1, 1) := by decide +kernel
theorem dX12_seats_120 : decode cX12_seats 120 = .ok (.ireturn, 1) := by decide +kernel
def f_X12_seats (G : GG) (v0 : Nat) (v1 : Int32) (v2 : Int32) (h : AH) : Option (Int32 × AH) :=
ck (m_t h v0 = .inl 12) <|
cb (f_X12_isPerson G v0 v1 h) fun r4 h2 =>
if r4 = 0 then (some ((0 : Int32), h2)) else
ck (m_t h2 v0 = .inl 12) <|
cb (f_X12_isPerson G v0 v2 h2) fun r9 h7 =>
if r9 = 0 then (some ((0 : Int32), h7)) else
if v1 = v2 then (some ((0 : Int32), h7)) else
ck (m_t h7 v0 = .inl 12) <|
cb (f_X12_rides G v0 v1 h7) fun r15 h13 =>
if r15 = 0 then (some ((0 : Int32), h13)) else
ck (m_t h13 v0 = .inl 12) <|
cb (f_X12_rides G v0 v2 h13) fun r20 h18 =>
if r20 = 0 then (some ((0 : Int32), h18)) else
ck (m_t h18 v0 = .inl 12) <|
ob (m_r h18 v0 9) fun b23 =>
ck (ixb h18 b23 .int v1 = true) <|
nn (fun (uu_59 : Unit) => (ob (m_r h18 v0 9) fun b26 =>
ck (ixb h18 b26 .int v2 = true) <|
cb (f_X12_maySit G v0 v1 (m_i h18 b26 v2.toNatClampNeg) h18) fun r31 h29 =>
if r31 = 0 then (some ((0 : Int32), h29)) else
ck (m_t h29 v0 = .inl 12) <|
ob (m_r h29 v0 9) fun b34 =>
ck (ixb h29 b34 .int v1 = true) <|
cb (f_X12_maySit G v0 v2 (m_i h29 b34 v1.toNatClampNeg) h29) fun r39 h37 =>
if r39 = 0 then (some ((0 : Int32), h37)) else
ck (m_t h37 v0 = .inl 12) <|
ob (f_X12_keepsAct G v0 h37) fun h42 =>
ck (m_t h42 v0 = .inl 12) <|
ob (m_r h42 v0 9) fun b45 =>
ck (ixb h42 b45 .int v1 = true) <|
nn (m_i h42 b45 v1.toNatClampNeg) fun x48 =>
ob (m_r h42 v0 9) fun b49 =>
ob (m_r h42 v0 9) fun b50 =>
ck (ixb h42 b50 .int v2 = true) <|
ck (ixb h42 b49 .int v1 = true) <|
nn (m_si h42 b49 v1.toNatClampNeg (m_i h42 b50 v2.toNatClampNeg)) fun h55 =>
ob (m_r h55 v0 9) fun b56 =>
ck (ixb h55 b56 .int v2 = true) <|
nn (m_si h55 b56 v2.toNatClampNeg x48) fun h59 =>
some ((1 : Int32), h59))) fun j_59 =>
if (m_i h18 b23 v1.toNatClampNeg) = (-1 : Int32) then (ob (m_r h18 v0 9) fun b61 =>
ck (ixb h18 b61 .int v2 = true) <|
if (m_i h18 b61 v2.toNatClampNeg) = (-1 : Int32) then (some ((0 : Int32), h18)) else
j_59 ()) else
j_59 ()
set_option maxHeartbeats 4000000 in
set_option maxRecDepth 100000 in
theorem ct_X12_seats {G : GG} {l : Launch} {v0 : Nat} {v1 : Int32} {v2 : Int32} {h : AH} {y : Int32 × AH} (hf : f_X12_seats G v0 v1 v2 h = some y) : Ct G l yX12_seats cX12_seats 4 (some .boolean) 4 87 0 0 [.ref v0, .int v1, .int v2] h (some (.int y.1), y.2) := by
  refine ct_of (by decide) (Nat.le_of_ble_eq_true rfl) ?_
  intro p e s m args below meth c C hm hr hin
  have C : Cx G cX12_seats RX12 p s m args meth c := C
  refine e_lv (lv2 := [(0, .ref v0), (1, .int v1), (2, .int v2)]) [0, 1, 2] rfl ?_
  unfold f_X12_seats at hf
  refine e_aload_n (pc := 0) C dX12_seats_0 0 rfl rfl ?_
  refine e_iload_n (pc := 1) C dX12_seats_1 1 rfl rfl ?_
  obtain ⟨t1, hf⟩ := ck_e hf
  obtain ⟨r4, h2, y3, hf⟩ := cb_e hf
  refine e_callVi (pc := 2) (st := []) 12 C (ct_X12_isPerson y3) dX12_seats_2 (by decide) t1 g1866 g1868 g90 g157 g1869 hd_X12_isPerson rfl ⟨Nat.le_of_ble_eq_true rfl, Nat.le_of_ble_eq_true rfl⟩ ⟨Nat.le_of_ble_eq_true rfl, Nat.le_of_ble_eq_true rfl⟩ rfl (Nat.le_of_ble_eq_true rfl) ?_
  rcases it_e hf with ⟨c5, hf⟩ | ⟨c5, hf⟩
  · refine e_if_eq (pc := 5) (tgt := 57) C dX12_seats_5 (by decide) (fun _ => ?_) (fun q => absurd c5 q)
    refine e_iconst (v := (0 : Int32)) (pc := 57) C dX12_seats_57 (by decide) ?_
    obtain rfl := so_e hf
    exact e_zret (pc := 58) (v := (0 : Int32)) C hr (nz_ok (by decide)) dX12_seats_58 (Nat.le_of_ble_eq_true rfl) (Nat.le_of_ble_eq_true rfl)
  · refine e_if_eq (pc := 5) (tgt := 57) C dX12_seats_5 (by decide) (fun q => absurd q c5) (fun _ => ?_)
    refine e_aload_n (pc := 8) C dX12_seats_8 0 rfl rfl ?_
    refine e_iload_n (pc := 9) C dX12_seats_9 2 rfl rfl ?_
    obtain ⟨t6, hf⟩ := ck_e hf
    obtain ⟨r9, h7, y8, hf⟩ := cb_e hf
    refine e_callVi (pc := 10) (st := []) 12 C (ct_X12_isPerson y8) dX12_seats_10 (by decide) t6 g1866 g1868 g90 g157 g1869 hd_X12_isPerson rfl ⟨Nat.le_of_ble_eq_true rfl, Nat.le_of_ble_eq_true rfl⟩ ⟨Nat.le_of_ble_eq_true rfl, Nat.le_of_ble_eq_true rfl⟩ rfl (Nat.le_of_ble_eq_true rfl) ?_
    rcases it_e hf with ⟨c10, hf⟩ | ⟨c10, hf⟩
    · refine e_if_eq (pc := 13) (tgt := 57) C dX12_seats_13 (by decide) (fun _ => ?_) (fun q => absurd c10 q)
      refine e_iconst (v := (0 : Int32)) (pc := 57) C dX12_seats_57 (by decide) ?_
      obtain rfl := so_e hf
      exact e_zret (pc := 58) (v := (0 : Int32)) C hr (nz_ok (by decide)) dX12_seats_58 (Nat.le_of_ble_eq_true rfl) (Nat.le_of_ble_eq_true rfl)
    · refine e_if_eq (pc := 13) (tgt := 57) C dX12_seats_13 (by decide) (fun q => absurd q c10) (fun _ => ?_)
      refine e_iload_n (pc := 16) C dX12_seats_16 1 rfl rfl ?_
      refine e_iload_n (pc := 17) C dX12_seats_17 2 rfl rfl ?_
      rcases it_e hf with ⟨c11, hf⟩ | ⟨c11, hf⟩
      · refine e_icmp_eq (pc := 18) (tgt := 57) C dX12_seats_18 (by decide) (fun _ => ?_) (fun q => absurd c11 q)
        refine e_iconst (v := (0 : Int32)) (pc := 57) C dX12_seats_57 (by decide) ?_
        obtain rfl := so_e hf
        exact e_zret (pc := 58) (v := (0 : Int32)) C hr (nz_ok (by decide)) dX12_seats_58 (Nat.le_of_ble_eq_true rfl) (Nat.le_of_ble_eq_true rfl)
      · refine e_icmp_eq (pc := 18) (tgt := 57) C dX12_seats_18 (by decide) (fun q => absurd q c11) (fun _ => ?_)
        refine e_aload_n (pc := 21) C dX12_seats_21 0 rfl rfl ?_
        refine e_iload_n (pc := 22) C dX12_seats_22 1 rfl rfl ?_
        obtain ⟨t12, hf⟩ := ck_e hf
        obtain ⟨r15, h13, y14, hf⟩ := cb_e hf
        refine e_callVi (pc := 23) (st := []) 12 C (ct_X12_rides y14) dX12_seats_23 (by decide) t12 g1778 g1780 g76 g157 g1781 hd_X12_rides rfl ⟨Nat.le_of_ble_eq_true rfl, Nat.le_of_ble_eq_true rfl⟩ ⟨Nat.le_of_ble_eq_true rfl, Nat.le_of_ble_eq_true rfl⟩ rfl (Nat.le_of_ble_eq_true rfl) ?_
        rcases it_e hf with ⟨c16, hf⟩ | ⟨c16, hf⟩
        · refine e_if_eq (pc := 26) (tgt := 57) C dX12_seats_26 (by decide) (fun _ => ?_) (fun q => absurd c16 q)
          refine e_iconst (v := (0 : Int32)) (pc := 57) C dX12_seats_57 (by decide) ?_
          obtain rfl := so_e hf
          exact e_zret (pc := 58) (v := (0 : Int32)) C hr (nz_ok (by decide)) dX12_seats_58 (Nat.le_of_ble_eq_true rfl) (Nat.le_of_ble_eq_true rfl)
        · refine e_if_eq (pc := 26) (tgt := 57) C dX12_seats_26 (by decide) (fun q => absurd q c16) (fun _ => ?_)
          refine e_aload_n (pc := 29) C dX12_seats_29 0 rfl rfl ?_
          refine e_iload_n (pc := 30) C dX12_seats_30 2 rfl rfl ?_
          obtain ⟨t17, hf⟩ := ck_e hf
          obtain ⟨r20, h18, y19, hf⟩ := cb_e hf
          refine e_callVi (pc := 31) (st := []) 12 C (ct_X12_rides y19) dX12_seats_31 (by decide) t17 g1778 g1780 g76 g157 g1781 hd_X12_rides rfl ⟨Nat.le_of_ble_eq_true rfl, Nat.le_of_ble_eq_true rfl⟩ ⟨Nat.le_of_ble_eq_true rfl, Nat.le_of_ble_eq_true rfl⟩ rfl (Nat.le_of_ble_eq_true rfl) ?_
          rcases it_e hf with ⟨c21, hf⟩ | ⟨c21, hf⟩
          · refine e_if_eq (pc := 34) (tgt := 57) C dX12_seats_34 (by decide) (fun _ => ?_) (fun q => absurd c21 q)
            refine e_iconst (v := (0 : Int32)) (pc := 57) C dX12_seats_57 (by decide) ?_
            obtain rfl := so_e hf
            exact e_zret (pc := 58) (v := (0 : Int32)) C hr (nz_ok (by decide)) dX12_seats_58 (Nat.le_of_ble_eq_true rfl) (Nat.le_of_ble_eq_true rfl)
          · refine e_if_eq (pc := 34) (tgt := 57) C dX12_seats_34 (by decide) (fun q => absurd q c21) (fun _ => ?_)
            refine e_aload_n (pc := 37) C dX12_seats_37 0 rfl rfl ?_
            obtain ⟨t22, hf⟩ := ck_e hf
            refine e_getr (pc := 38) 12 9 C dX12_seats_38 (by decide) (by decide) g1410 rfl t22 ?_
            obtain ⟨b23, eb23, hf⟩ := ob_e hf
            refine e_rf eb23 ?_
            refine e_iload_n (pc := 41) C dX12_seats_41 1 rfl rfl ?_
            obtain ⟨q24, hf⟩ := ck_e hf
            obtain ⟨n25, tn25, in25⟩ := ix_e q24
            refine e_iald (pc := 42) C dX12_seats_42 tn25 in25 ?_
            refine e_iconst (v := (-1 : Int32)) (pc := 43) C dX12_seats_43 (by decide) ?_
            obtain ⟨j_59, ej_59, hf⟩ := nn_e hf
            have W_59 : ∀ (uu_59 : Unit), j_59 uu_59 = some y → EE G p l e ({ frames := 4, cells := 0, slots := 0, locals := 87 } : Room) s m args below meth c (some (.int y.1), y.2) 0 0 59 [(0, .ref v0), (1, .int v1), (2, .int v2)] [] h18 0 0 := by
              intro uu_59 hf
              rw [ej_59] at hf
              refine e_aload_n (pc := 59) C dX12_seats_59 0 rfl rfl ?_
              refine e_iload_n (pc := 60) C dX12_seats_60 1 rfl rfl ?_
              refine e_aload_n (pc := 61) C dX12_seats_61 0 rfl rfl ?_
              refine e_getr (pc := 62) 12 9 C dX12_seats_62 (by decide) (by decide) g1410 rfl t22 ?_
              obtain ⟨b26, eb26, hf⟩ := ob_e hf
              refine e_rf eb26 ?_
              refine e_iload_n (pc := 65) C dX12_seats_65 2 rfl rfl ?_
              obtain ⟨q27, hf⟩ := ck_e hf
              obtain ⟨n28, tn28, in28⟩ := ix_e q27
              refine e_iald (pc := 66) C dX12_seats_66 tn28 in28 ?_
              obtain ⟨r31, h29, y30, hf⟩ := cb_e hf
              refine e_callVi (pc := 67) (st := []) 12 C (ct_X12_maySit y30) dX12_seats_67 (by decide) t22 g1767 g1769 g74 g157 g1770 hd_X12_maySit rfl ⟨Nat.le_of_ble_eq_true rfl, Nat.le_of_ble_eq_true rfl⟩ ⟨Nat.le_of_ble_eq_true rfl, Nat.le_of_ble_eq_true rfl⟩ rfl (Nat.le_of_ble_eq_true rfl) ?_
              rcases it_e hf with ⟨c32, hf⟩ | ⟨c32, hf⟩
              · refine e_if_eq (pc := 70) (tgt := 87) C dX12_seats_70 (by decide) (fun _ => ?_) (fun q => absurd c32 q)
                refine e_iconst (v := (0 : Int32)) (pc := 87) C dX12_seats_87 (by decide) ?_
                obtain rfl := so_e hf
                exact e_zret (pc := 88) (v := (0 : Int32)) C hr (nz_ok (by decide)) dX12_seats_88 (Nat.le_of_ble_eq_true rfl) (Nat.le_of_ble_eq_true rfl)
              · refine e_if_eq (pc := 70) (tgt := 87) C dX12_seats_70 (by decide) (fun q => absurd q c32) (fun _ => ?_)
                refine e_aload_n (pc := 73) C dX12_seats_73 0 rfl rfl ?_
                refine e_iload_n (pc := 74) C dX12_seats_74 2 rfl rfl ?_
                refine e_aload_n (pc := 75) C dX12_seats_75 0 rfl rfl ?_
                obtain ⟨t33, hf⟩ := ck_e hf
                refine e_getr (pc := 76) 12 9 C dX12_seats_76 (by decide) (by decide) g1410 rfl t33 ?_
                obtain ⟨b34, eb34, hf⟩ := ob_e hf
                refine e_rf eb34 ?_
                refine e_iload_n (pc := 79) C dX12_seats_79 1 rfl rfl ?_
                obtain ⟨q35, hf⟩ := ck_e hf
                obtain ⟨n36, tn36, in36⟩ := ix_e q35
                refine e_iald (pc := 80) C dX12_seats_80 tn36 in36 ?_
                obtain ⟨r39, h37, y38, hf⟩ := cb_e hf
                refine e_callVi (pc := 81) (st := []) 12 C (ct_X12_maySit y38) dX12_seats_81 (by decide) t33 g1767 g1769 g74 g157 g1770 hd_X12_maySit rfl ⟨Nat.le_of_ble_eq_true rfl, Nat.le_of_ble_eq_true rfl⟩ ⟨Nat.le_of_ble_eq_true rfl, Nat.le_of_ble_eq_true rfl⟩ rfl (Nat.le_of_ble_eq_true rfl) ?_
                rcases it_e hf with ⟨c40, hf⟩ | ⟨c40, hf⟩
                · refine e_if_ne (pc := 84) (tgt := 89) C dX12_seats_84 (by decide) (fun q => absurd c40 q) (fun _ => ?_)
                  refine e_iconst (v := (0 : Int32)) (pc := 87) C dX12_seats_87 (by decide) ?_
                  obtain rfl := so_e hf
                  exact e_zret (pc := 88) (v := (0 : Int32)) C hr (nz_ok (by decide)) dX12_seats_88 (Nat.le_of_ble_eq_true rfl) (Nat.le_of_ble_eq_true rfl)
                · refine e_if_ne (pc := 84) (tgt := 89) C dX12_seats_84 (by decide) (fun _ => ?_) (fun q => absurd q c40)
                  refine e_aload_n (pc := 89) C dX12_seats_89 0 rfl rfl ?_
                  obtain ⟨t41, hf⟩ := ck_e hf
                  obtain ⟨h42, y43, hf⟩ := ob_e hf
                  refine e_callVv (pc := 90) (st := []) 12 C (ct_X12_keepsAct y43) dX12_seats_90 (by decide) t41 g1944 g1946 g102 g157 g1947 hd_X12_keepsAct rfl ⟨Nat.le_of_ble_eq_true rfl, Nat.le_of_ble_eq_true rfl⟩ ⟨Nat.le_of_ble_eq_true rfl, Nat.le_of_ble_eq_true rfl⟩ rfl (Nat.le_of_ble_eq_true rfl) ?_
                  refine e_aload_n (pc := 93) C dX12_seats_93 0 rfl rfl ?_
                  obtain ⟨t44, hf⟩ := ck_e hf
                  refine e_getr (pc := 94) 12 9 C dX12_seats_94 (by decide) (by decide) g1410 rfl t44 ?_
                  obtain ⟨b45, eb45, hf⟩ := ob_e hf
                  refine e_rf eb45 ?_
                  refine e_iload_n (pc := 97) C dX12_seats_97 1 rfl rfl ?_
                  obtain ⟨q46, hf⟩ := ck_e hf
                  obtain ⟨n47, tn47, in47⟩ := ix_e q46
                  refine e_iald (pc := 98) C dX12_seats_98 tn47 in47 ?_
                  obtain ⟨x48, ex48, hf⟩ := nn_e hf
                  refine e_topi ex48 ?_
                  refine e_istore_n (pc := 99) (lv2 := [(3, .int x48), (0, .ref v0), (1, .int v1), (2, .int v2)]) C hm dX12_seats_99 rfl (by decide) rfl ?_
                  refine e_aload_n (pc := 100) C dX12_seats_100 1 rfl rfl ?_
                  refine e_getr (pc := 101) 12 9 C dX12_seats_101 (by decide) (by decide) g1410 rfl t44 ?_
                  obtain ⟨b49, eb49, hf⟩ := ob_e hf
                  refine e_rf eb49 ?_
                  refine e_iload_n (pc := 104) C dX12_seats_104 2 rfl rfl ?_
                  refine e_aload_n (pc := 105) C dX12_seats_105 1 rfl rfl ?_
                  refine e_getr (pc := 106) 12 9 C dX12_seats_106 (by decide) (by decide) g1410 rfl t44 ?_
                  obtain ⟨b50, eb50, hf⟩ := ob_e hf
                  refine e_rf eb50 ?_
                  refine e_iload_n (pc := 109) C dX12_seats_109 3 rfl rfl ?_
                  obtain ⟨q51, hf⟩ := ck_e hf
                  obtain ⟨n52, tn52, in52⟩ := ix_e q51
                  refine e_iald (pc := 110) C dX12_seats_110 tn52 in52 ?_
                  obtain ⟨q53, hf⟩ := ck_e hf
                  obtain ⟨n54, tn54, in54⟩ := ix_e q53
                  refine e_iast (pc := 111) C dX12_seats_111 tn54 in54 ?_
                  obtain ⟨h55, eh55, hf⟩ := nn_e hf
                  refine e_hp eh55 ?_
                  have uh55 : m_t h55 = m_t h42 := by rw [eh55]; exact rfl
                  refine e_aload_n (pc := 112) C dX12_seats_112 1 rfl rfl ?_
                  refine e_getr (pc := 113) 12 9 C dX12_seats_113 (by decide) (by decide) g1410 rfl (e_mt uh55 t44) ?_
                  obtain ⟨b56, eb56, hf⟩ := ob_e hf
                  refine e_rf eb56 ?_
                  refine e_iload_n (pc := 116) C dX12_seats_116 3 rfl rfl ?_
                  refine e_iload_n (pc := 117) C dX12_seats_117 0 rfl rfl ?_
                  obtain ⟨q57, hf⟩ := ck_e hf
                  obtain ⟨n58, tn58, in58⟩ := ix_e q57
                  refine e_iast (pc := 118) C dX12_seats_118 tn58 in58 ?_
                  obtain ⟨h59, eh59, hf⟩ := nn_e hf
                  refine e_hp eh59 ?_
                  have uh59 : m_t h59 = m_t h42 := by rw [eh59]; exact uh55
                  refine e_iconst (v := (1 : Int32)) (pc := 119) C dX12_seats_119 (by decide) ?_
                  obtain rfl := so_e hf
                  exact e_zret (pc := 120) (v := (1 : Int32)) C hr (nz_ok (by decide)) dX12_seats_120 (Nat.le_of_ble_eq_true rfl) (Nat.le_of_ble_eq_true rfl)
            rcases it_e hf with ⟨c60, hf⟩ | ⟨c60, hf⟩
            · refine e_icmp_ne (pc := 44) (tgt := 59) C dX12_seats_44 (by decide) (fun q => absurd c60 q) (fun _ => ?_)
              refine e_aload_n (pc := 47) C dX12_seats_47 0 rfl rfl ?_
              refine e_getr (pc := 48) 12 9 C dX12_seats_48 (by decide) (by decide) g1410 rfl t22 ?_
              obtain ⟨b61, eb61, hf⟩ := ob_e hf
              refine e_rf eb61 ?_
              refine e_iload_n (pc := 51) C dX12_seats_51 2 rfl rfl ?_
              obtain ⟨q62, hf⟩ := ck_e hf
              obtain ⟨n63, tn63, in63⟩ := ix_e q62
              refine e_iald (pc := 52) C dX12_seats_52 tn63 in63 ?_
              refine e_iconst (v := (-1 : Int32)) (pc := 53) C dX12_seats_53 (by decide) ?_
              rcases it_e hf with ⟨c64, hf⟩ | ⟨c64, hf⟩
              · refine e_icmp_ne (pc := 54) (tgt := 59) C dX12_seats_54 (by decide) (fun q => absurd c64 q) (fun _ => ?_)
                refine e_iconst (v := (0 : Int32)) (pc := 57) C dX12_seats_57 (by decide) ?_
                obtain rfl := so_e hf
                exact e_zret (pc := 58) (v := (0 : Int32)) C hr (nz_ok (by decide)) dX12_seats_58 (Nat.le_of_ble_eq_true rfl) (Nat.le_of_ble_eq_true rfl)
              · refine e_icmp_ne (pc := 54) (tgt := 59) C dX12_seats_54 (by decide) (fun _ => ?_) (fun q => absurd q c64)
                exact W_59 () hf
            · refine e_icmp_ne (pc := 44) (tgt := 59) C dX12_seats_44 (by decide) (fun _ => ?_) (fun q => absurd q c60)
              exact W_59 () hf
theorem dX12_say_0 : decode cX12_say 0 = .ok (.aload_n 0, 1) := by decide +kernel
theorem dX12_say_1 : decode cX12_say 1 = .ok (.iload_n 1, 1) := by decide +kernel
theorem dX12_say_2 : decode cX12_say 2 = .ok (.invokevirtual 452, 3) := by decide +kernel
theorem dX12_say_5 : decode cX12_say 5 = .ok (.ifCond .eq 27, 3) := by decide +kernel
theorem dX12_say_8 : decode cX12_say 8 = .ok (.iload_n 2, 1) := by decide +kernel
theorem dX12_say_9 : decode cX12_say 9 = .ok (.i2l, 1) := by decide +kernel
theorem dX12_say_10 : decode cX12_say 10 = .ok (.ldc2_w 542, 3) := by decide +kernel
theorem dX12_say_13 : decode cX12_say 13 = .ok (.ldc2_w 544, 3) := by decide +kernel
theorem dX12_say_16 : decode cX12_say 16 = .ok (.invokestatic 206, 3) := by decide +kernel
theorem dX12_say_19 : decode cX12_say 19 = .ok (.ifCond .eq 13, 3) := by decide +kernel
theorem dX12_say_22 : decode cX12_say 22 = .ok (.aload_n 0, 1) := by decide +kernel
theorem dX12_say_23 : decode cX12_say 23 = .ok (.getfield 31, 3) := by decide +kernel
theorem dX12_say_26 : decode cX12_say 26 = .ok (.iload_n 1, 1) := by decide +kernel
theorem dX12_say_27 : decode cX12_say 27 = .ok (.iaload, 1) := by decide +kernel
theorem dX12_say_28 : decode cX12_say 28 = .ok (.iload_n 2, 1) := by decide +kernel
theorem dX12_say_29 : decode cX12_say 29 = .ok (.if_icmp .ne 6, 3) := by decide +kernel
theorem dX12_say_32 : decode cX12_say 32 = .ok (.bipush (-100), 2) := by decide +kernel
theorem dX12_say_34 : decode cX12_say 34 = .ok (.ireturn, 1) := by decide +kernel
theorem dX12_say_35 : decode cX12_say 35 = .ok (.aload_n 0, 1) := by decide +kernel
theorem dX12_say_36 : decode cX12_say 36 = .ok (.invokevirtual 534, 3) := by decide +kernel
theorem dX12_say_39 : decode cX12_say 39 = .ok (.aload_n 0, 1) := by decide +kernel
theorem dX12_say_40 : decode cX12_say 40 = .ok (.getfield 31, 3) := by decide +kernel
theorem dX12_say_43 : decode cX12_say 43 = .ok (.iload_n 1, 1) := by decide +kernel
theorem dX12_say_44 : decode cX12_say 44 = .ok (.iaload, 1) := by decide +kernel
theorem dX12_say_45 : decode cX12_say 45 = .ok (.istore_n 3, 1) := by decide +kernel
theorem dX12_say_46 : decode cX12_say 46 = .ok (.aload_n 0, 1) := by decide +kernel
theorem dX12_say_47 : decode cX12_say 47 = .ok (.getfield 31, 3) := by decide +kernel
theorem dX12_say_50 : decode cX12_say 50 = .ok (.iload_n 1, 1) := by decide +kernel
theorem dX12_say_51 : decode cX12_say 51 = .ok (.iload_n 2, 1) := by decide +kernel
theorem dX12_say_52 : decode cX12_say 52 = .ok (.iastore, 1) := by decide +kernel
theorem dX12_say_53 : decode cX12_say 53 = .ok (.iload_n 3, 1) := by decide +kernel
theorem dX12_say_54 : decode cX12_say 54 = .ok (.ireturn, 1) := by decide +kernel
def f_X12_say (G : GG) (v0 : Nat) (v1 : Int32) (v2 : Int32) (h : AH) : Option (Int32 × AH) :=
ck (m_t h v0 = .inl 12) <|
cb (f_X12_isPerson G v0 v1 h) fun r4 h2 =>
if r4 = 0 then (some ((-100 : Int32), h2)) else
cb (f_X12_in G v2.toInt64 (-9 : Int64) (9 : Int64) h2) fun r8 h6 =>
if r8 = 0 then (some ((-100 : Int32), h6)) else
ck (m_t h6 v0 = .inl 12) <|
ob (m_r h6 v0 8) fun b11 =>
ck (ixb h6 b11 .int v1 = true) <|
if (m_i h6 b11 v1.toNatClampNeg) = v2 then (some ((-100 : Int32), h6)) else
ob (f_X12_keepsAct G v0 h6) fun h15 =>
ck (m_t h15 v0 = .inl 12) <|
ob (m_r h15 v0 8) fun b18 =>
ck (ixb h15 b18 .int v1 = true) <|
nn (m_i h15 b18 v1.toNatClampNeg) fun x21 =>
ob (m_r h15 v0 8) fun b22 =>
ck (ixb h15 b22 .int v1 = true) <|
nn (m_si h15 b22 v1.toNatClampNeg v2) fun h25 =>
some (x21, h25)
set_option maxHeartbeats 4000000 in
set_option maxRecDepth 100000 in
theorem ct_X12_say {G : GG} {l : Launch} {v0 : Nat} {v1 : Int32} {v2 : Int32} {h : AH} {y : Int32 × AH} (hf : f_X12_say G v0 v1 v2 h = some y) : Ct G l yX12_say cX12_say 4 (some .int) 4 87 0 0 [.ref v0, .int v1, .int v2] h (some (.int y.1), y.2) := by
  refine ct_of (by decide) (Nat.le_of_ble_eq_true rfl) ?_
  intro p e s m args below meth c C hm hr hin
  have C : Cx G cX12_say RX12 p s m args meth c := C
  refine e_lv (lv2 := [(0, .ref v0), (1, .int v1), (2, .int v2)]) [0, 1, 2] rfl ?_
  unfold f_X12_say at hf
  refine e_aload_n (pc := 0) C dX12_say_0 0 rfl rfl ?_
  refine e_iload_n (pc := 1) C dX12_say_1 1 rfl rfl ?_
  obtain ⟨t1, hf⟩ := ck_e hf
  obtain ⟨r4, h2, y3, hf⟩ := cb_e hf
  refine e_callVi (pc := 2) (st := []) 12 C (ct_X12_isPerson y3) dX12_say_2 (by decide) t1 g1866 g1868 g90 g157 g1869 hd_X12_isPerson rfl ⟨Nat.le_of_ble_eq_true rfl, Nat.le_of_ble_eq_true rfl⟩ ⟨Nat.le_of_ble_eq_true rfl, Nat.le_of_ble_eq_true rfl⟩ rfl (Nat.le_of_ble_eq_true rfl) ?_
  rcases it_e hf with ⟨c5, hf⟩ | ⟨c5, hf⟩
  · refine e_if_eq (pc := 5) (tgt := 32) C dX12_say_5 (by decide) (fun _ => ?_) (fun q => absurd c5 q)
    refine e_bipush (v := (-100 : Int32)) (pc := 32) C dX12_say_32 (by decide) ?_
    obtain rfl := so_e hf
    exact e_iret (pc := 34) C hr dX12_say_34 (Nat.le_of_ble_eq_true rfl) (Nat.le_of_ble_eq_true rfl)
  · refine e_if_eq (pc := 5) (tgt := 32) C dX12_say_5 (by decide) (fun q => absurd q c5) (fun _ => ?_)
    refine e_iload_n (pc := 8) C dX12_say_8 2 rfl rfl ?_
    refine e_i2l (pc := 9) C dX12_say_9 ?_
    refine e_ldc2 (pc := 10) C dX12_say_10 g2017 ?_
    refine e_ldc2 (pc := 13) C dX12_say_13 g2018 ?_
    obtain ⟨r8, h6, y7, hf⟩ := cb_e hf
    refine e_callSi (pc := 16) (st := []) C (ct_X12_in y7) dX12_say_16 g1737 g1738 g157 g1739 hd_X12_in rfl ⟨Nat.le_of_ble_eq_true rfl, Nat.le_of_ble_eq_true rfl⟩ ⟨Nat.le_of_ble_eq_true rfl, Nat.le_of_ble_eq_true rfl⟩ rfl (Nat.le_of_ble_eq_true rfl) ?_
    rcases it_e hf with ⟨c9, hf⟩ | ⟨c9, hf⟩
    · refine e_if_eq (pc := 19) (tgt := 32) C dX12_say_19 (by decide) (fun _ => ?_) (fun q => absurd c9 q)
      refine e_bipush (v := (-100 : Int32)) (pc := 32) C dX12_say_32 (by decide) ?_
      obtain rfl := so_e hf
      exact e_iret (pc := 34) C hr dX12_say_34 (Nat.le_of_ble_eq_true rfl) (Nat.le_of_ble_eq_true rfl)
    · refine e_if_eq (pc := 19) (tgt := 32) C dX12_say_19 (by decide) (fun q => absurd q c9) (fun _ => ?_)
      refine e_aload_n (pc := 22) C dX12_say_22 0 rfl rfl ?_
      obtain ⟨t10, hf⟩ := ck_e hf
      refine e_getr (pc := 23) 12 8 C dX12_say_23 (by decide) (by decide) g1409 rfl t10 ?_
      obtain ⟨b11, eb11, hf⟩ := ob_e hf
      refine e_rf eb11 ?_
      refine e_iload_n (pc := 26) C dX12_say_26 1 rfl rfl ?_
      obtain ⟨q12, hf⟩ := ck_e hf
      obtain ⟨n13, tn13, in13⟩ := ix_e q12
      refine e_iald (pc := 27) C dX12_say_27 tn13 in13 ?_
      refine e_iload_n (pc := 28) C dX12_say_28 2 rfl rfl ?_
      rcases it_e hf with ⟨c14, hf⟩ | ⟨c14, hf⟩
      · refine e_icmp_ne (pc := 29) (tgt := 35) C dX12_say_29 (by decide) (fun q => absurd c14 q) (fun _ => ?_)
        refine e_bipush (v := (-100 : Int32)) (pc := 32) C dX12_say_32 (by decide) ?_
        obtain rfl := so_e hf
        exact e_iret (pc := 34) C hr dX12_say_34 (Nat.le_of_ble_eq_true rfl) (Nat.le_of_ble_eq_true rfl)
      · refine e_icmp_ne (pc := 29) (tgt := 35) C dX12_say_29 (by decide) (fun _ => ?_) (fun q => absurd q c14)
        refine e_aload_n (pc := 35) C dX12_say_35 0 rfl rfl ?_
        obtain ⟨h15, y16, hf⟩ := ob_e hf
        refine e_callVv (pc := 36) (st := []) 12 C (ct_X12_keepsAct y16) dX12_say_36 (by decide) t10 g1944 g1946 g102 g157 g1947 hd_X12_keepsAct rfl ⟨Nat.le_of_ble_eq_true rfl, Nat.le_of_ble_eq_true rfl⟩ ⟨Nat.le_of_ble_eq_true rfl, Nat.le_of_ble_eq_true rfl⟩ rfl (Nat.le_of_ble_eq_true rfl) ?_
        refine e_aload_n (pc := 39) C dX12_say_39 0 rfl rfl ?_
        obtain ⟨t17, hf⟩ := ck_e hf
        refine e_getr (pc := 40) 12 8 C dX12_say_40 (by decide) (by decide) g1409 rfl t17 ?_
        obtain ⟨b18, eb18, hf⟩ := ob_e hf
        refine e_rf eb18 ?_
        refine e_iload_n (pc := 43) C dX12_say_43 1 rfl rfl ?_
        obtain ⟨q19, hf⟩ := ck_e hf
        obtain ⟨n20, tn20, in20⟩ := ix_e q19
        refine e_iald (pc := 44) C dX12_say_44 tn20 in20 ?_
        obtain ⟨x21, ex21, hf⟩ := nn_e hf
        refine e_topi ex21 ?_
        refine e_istore_n (pc := 45) (lv2 := [(3, .int x21), (0, .ref v0), (1, .int v1), (2, .int v2)]) C hm dX12_say_45 rfl (by decide) rfl ?_
        refine e_aload_n (pc := 46) C dX12_say_46 1 rfl rfl ?_
        refine e_getr (pc := 47) 12 8 C dX12_say_47 (by decide) (by decide) g1409 rfl t17 ?_
        obtain ⟨b22, eb22, hf⟩ := ob_e hf
        refine e_rf eb22 ?_
        refine e_iload_n (pc := 50) C dX12_say_50 2 rfl rfl ?_
        refine e_iload_n (pc := 51) C dX12_say_51 3 rfl rfl ?_
        obtain ⟨q23, hf⟩ := ck_e hf
        obtain ⟨n24, tn24, in24⟩ := ix_e q23
        refine e_iast (pc := 52) C dX12_say_52 tn24 in24 ?_
        obtain ⟨h25, eh25, hf⟩ := nn_e hf
        refine e_hp eh25 ?_
        have uh25 : m_t h25 = m_t h15 := by rw [eh25]; exact rfl
        refine e_iload_n (pc := 53) C dX12_say_53 0 rfl rfl ?_
        obtain rfl := so_e hf
        exact e_iret (pc := 54) C hr dX12_say_54 (Nat.le_of_ble_eq_true rfl) (Nat.le_of_ble_eq_true rfl)
