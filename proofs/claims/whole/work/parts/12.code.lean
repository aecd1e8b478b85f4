/-! Functions and walks, by a program of ours: X11_end X11_aMileOlder X11_alwaysKnob X0_seatBits X0_placeFor X0_changeRiders X0_begin X6_begin X11_train X2_init X3_readLaw X11_rule X11_hasLaw X11_force X0_isAboard X11_airPerHole X0_wantOf X11_airAt X0_unease X0_tollFor X0_sufferingOf X11_person X11_isSeat X11_isHole X11_air X11_hasTrain X0_sitterOf X11_seat X11_stretch X11_milesLeft X0_copyFrom X6_act X11_lawOf X2_lookAround -/
theorem dX11_end_0 : decode cX11_end 0 = .ok (.iload_n 1, 1) := by decide +kernel
theorem dX11_end_1 : decode cX11_end 1 = .ok (.ifCond .lt 14, 3) := by decide +kernel
theorem dX11_end_4 : decode cX11_end 4 = .ok (.iload_n 1, 1) := by decide +kernel
theorem dX11_end_5 : decode cX11_end 5 = .ok (.aload_n 0, 1) := by decide +kernel
theorem dX11_end_6 : decode cX11_end 6 = .ok (.getfield 10, 3) := by decide +kernel
theorem dX11_end_9 : decode cX11_end 9 = .ok (.getfield 102, 3) := by decide +kernel
theorem dX11_end_12 : decode cX11_end 12 = .ok (.if_icmp .le 5, 3) := by decide +kernel
theorem dX11_end_15 : decode cX11_end 15 = .ok (.iconst (-1), 1) := by decide +kernel
theorem dX11_end_16 : decode cX11_end 16 = .ok (.ireturn, 1) := by decide +kernel
theorem dX11_end_17 : decode cX11_end 17 = .ok (.aload_n 0, 1) := by decide +kernel
theorem dX11_end_18 : decode cX11_end 18 = .ok (.getfield 10, 3) := by decide +kernel
theorem dX11_end_21 : decode cX11_end 21 = .ok (.iload_n 1, 1) := by decide +kernel
theorem dX11_end_22 : decode cX11_end 22 = .ok (.putfield 102, 3) := by decide +kernel
theorem dX11_end_25 : decode cX11_end 25 = .ok (.iload_n 1, 1) := by decide +kernel
theorem dX11_end_26 : decode cX11_end 26 = .ok (.ireturn, 1) := by decide +kernel
noncomputable def f_X11_end (G : GG) (v0 : Nat) (v1 : Int32) (h : AH) : Option (Int32 × AH) :=
if v1 < 0 then (some ((-1 : Int32), h)) else
ck (m_t h v0 = .inl 11) <|
ob (m_r h v0 0) fun b3 =>
ck (m_t h b3 = .inl 8) <|
if v1 ≤ (m_i h b3 1) then (ob (m_r h v0 0) fun b6 =>
ck (m_t h b6 = .inl 8) <|
nn (m_si h b6 1 v1) fun h8 =>
some (v1, h8)) else
some ((-1 : Int32), h)
set_option maxHeartbeats 4000000 in
set_option maxRecDepth 100000 in
theorem ct_X11_end {G : GG} {l : Launch} {v0 : Nat} {v1 : Int32} {h : AH} {y : Int32 × AH} (hf : f_X11_end G v0 v1 h = some y) : Ct G l yX11_end cX11_end 2 (some .int) 0 0 0 0 [.ref v0, .int v1] h (some (.int y.1), y.2) := by
  refine ct_of (by decide) (Nat.le_of_ble_eq_true rfl) ?_
  intro p e s m args below meth c C hm hr hin
  have C : Cx G cX11_end RX11 p s m args meth c := C
  refine e_lv (lv2 := [(0, .ref v0), (1, .int v1)]) [0, 1] rfl ?_
  unfold f_X11_end at hf
  refine e_iload_n (pc := 0) C dX11_end_0 1 rfl rfl ?_
  rcases it_e hf with ⟨c1, hf⟩ | ⟨c1, hf⟩
  · refine e_if_lt (pc := 1) (tgt := 15) C dX11_end_1 (by decide) (fun _ => ?_) (fun q => absurd c1 q)
    refine e_iconst (v := (-1 : Int32)) (pc := 15) C dX11_end_15 (by decide) ?_
    obtain rfl := so_e hf
    exact e_iret (pc := 16) C hr dX11_end_16 (Nat.le_of_ble_eq_true rfl) (Nat.le_of_ble_eq_true rfl)
  · refine e_if_lt (pc := 1) (tgt := 15) C dX11_end_1 (by decide) (fun q => absurd q c1) (fun _ => ?_)
    refine e_iload_n (pc := 4) C dX11_end_4 1 rfl rfl ?_
    refine e_aload_n (pc := 5) C dX11_end_5 0 rfl rfl ?_
    obtain ⟨t2, hf⟩ := ck_e hf
    refine e_getr (pc := 6) 11 0 C dX11_end_6 (by decide) (by decide) g573 rfl t2 ?_
    obtain ⟨b3, eb3, hf⟩ := ob_e hf
    refine e_rf eb3 ?_
    obtain ⟨t4, hf⟩ := ck_e hf
    refine e_getiN (pc := 9) 8 1 C dX11_end_9 (by decide) (by decide) g183 rfl t4 ?_
    rcases it_e hf with ⟨c5, hf⟩ | ⟨c5, hf⟩
    · refine e_icmp_le (pc := 12) (tgt := 17) C dX11_end_12 (by decide) (fun _ => ?_) (fun q => absurd c5 q)
      refine e_aload_n (pc := 17) C dX11_end_17 0 rfl rfl ?_
      refine e_getr (pc := 18) 11 0 C dX11_end_18 (by decide) (by decide) g573 rfl t2 ?_
      obtain ⟨b6, eb6, hf⟩ := ob_e hf
      refine e_rf eb6 ?_
      refine e_iload_n (pc := 21) C dX11_end_21 1 rfl rfl ?_
      obtain ⟨t7, hf⟩ := ck_e hf
      refine e_putiN (pc := 22) 8 1 C dX11_end_22 (by decide) (by decide) g183 rfl rfl rfl rfl t7 ?_
      obtain ⟨h8, eh8, hf⟩ := nn_e hf
      refine e_hp eh8 ?_
      have uh8 : m_t h8 = m_t h := by rw [eh8]; exact rfl
      refine e_iload_n (pc := 25) C dX11_end_25 1 rfl rfl ?_
      obtain rfl := so_e hf
      exact e_iret (pc := 26) C hr dX11_end_26 (Nat.le_of_ble_eq_true rfl) (Nat.le_of_ble_eq_true rfl)
    · refine e_icmp_le (pc := 12) (tgt := 17) C dX11_end_12 (by decide) (fun q => absurd q c5) (fun _ => ?_)
      refine e_iconst (v := (-1 : Int32)) (pc := 15) C dX11_end_15 (by decide) ?_
      obtain rfl := so_e hf
      exact e_iret (pc := 16) C hr dX11_end_16 (Nat.le_of_ble_eq_true rfl) (Nat.le_of_ble_eq_true rfl)
theorem dX11_aMileOlder_0 : decode cX11_aMileOlder 0 = .ok (.iload_n 0, 1) := by decide +kernel
theorem dX11_aMileOlder_1 : decode cX11_aMileOlder 1 = .ok (.iconst 2, 1) := by decide +kernel
theorem dX11_aMileOlder_2 : decode cX11_aMileOlder 2 = .ok (.ishl, 1) := by decide +kernel
theorem dX11_aMileOlder_3 : decode cX11_aMileOlder 3 = .ok (.iload_n 0, 1) := by decide +kernel
theorem dX11_aMileOlder_4 : decode cX11_aMileOlder 4 = .ok (.iconst 3, 1) := by decide +kernel
theorem dX11_aMileOlder_5 : decode cX11_aMileOlder 5 = .ok (.iand, 1) := by decide +kernel
theorem dX11_aMileOlder_6 : decode cX11_aMileOlder 6 = .ok (.ior, 1) := by decide +kernel
theorem dX11_aMileOlder_7 : decode cX11_aMileOlder 7 = .ok (.sipush 16383, 3) := by decide +kernel
theorem dX11_aMileOlder_10 : decode cX11_aMileOlder 10 = .ok (.iand, 1) := by decide +kernel
theorem dX11_aMileOlder_11 : decode cX11_aMileOlder 11 = .ok (.ireturn, 1) := by decide +kernel
noncomputable def f_X11_aMileOlder (G : GG) (v0 : Int32) (h : AH) : Option (Int32 × AH) :=
some (((v0 <<< ((2 : Int32) &&& 31)) ||| (v0 &&& (3 : Int32))) &&& (16383 : Int32), h)
set_option maxHeartbeats 4000000 in
set_option maxRecDepth 100000 in
theorem ct_X11_aMileOlder {G : GG} {l : Launch} {v0 : Int32} {h : AH} {y : Int32 × AH} (hf : f_X11_aMileOlder G v0 h = some y) : Ct G l yX11_aMileOlder cX11_aMileOlder 1 (some .int) 0 0 0 0 [.int v0] h (some (.int y.1), y.2) := by
  refine ct_of (by decide) (Nat.le_of_ble_eq_true rfl) ?_
  intro p e s m args below meth c C hm hr hin
  have C : Cx G cX11_aMileOlder RX11 p s m args meth c := C
  refine e_lv (lv2 := [(0, .int v0)]) [0] rfl ?_
  unfold f_X11_aMileOlder at hf
  refine e_iload_n (pc := 0) C dX11_aMileOlder_0 0 rfl rfl ?_
  refine e_iconst (v := (2 : Int32)) (pc := 1) C dX11_aMileOlder_1 (by decide) ?_
  refine e_ishl (pc := 2) C dX11_aMileOlder_2 ?_
  refine e_iload_n (pc := 3) C dX11_aMileOlder_3 0 rfl rfl ?_
  refine e_iconst (v := (3 : Int32)) (pc := 4) C dX11_aMileOlder_4 (by decide) ?_
  refine e_iand (pc := 5) C dX11_aMileOlder_5 ?_
  refine e_ior (pc := 6) C dX11_aMileOlder_6 ?_
  refine e_sipush (v := (16383 : Int32)) (pc := 7) C dX11_aMileOlder_7 (by decide) ?_
  refine e_iand (pc := 10) C dX11_aMileOlder_10 ?_
  obtain rfl := so_e hf
  exact e_iret (pc := 11) C hr dX11_aMileOlder_11 (Nat.le_of_ble_eq_true rfl) (Nat.le_of_ble_eq_true rfl)
theorem dX11_alwaysKnob_0 : decode cX11_alwaysKnob 0 = .ok (.iload_n 0, 1) := by decide +kernel
theorem dX11_alwaysKnob_1 : decode cX11_alwaysKnob 1 = .ok (.istore_n 1, 1) := by decide +kernel
theorem dX11_alwaysKnob_2 : decode cX11_alwaysKnob 2 = .ok (.iconst 0, 1) := by decide +kernel
theorem dX11_alwaysKnob_3 : decode cX11_alwaysKnob 3 = .ok (.istore_n 2, 1) := by decide +kernel
theorem dX11_alwaysKnob_4 : decode cX11_alwaysKnob 4 = .ok (.iload_n 2, 1) := by decide +kernel
theorem dX11_alwaysKnob_5 : decode cX11_alwaysKnob 5 = .ok (.bipush 6, 2) := by decide +kernel
theorem dX11_alwaysKnob_7 : decode cX11_alwaysKnob 7 = .ok (.if_icmp .ge 14, 3) := by decide +kernel
theorem dX11_alwaysKnob_10 : decode cX11_alwaysKnob 10 = .ok (.iload_n 1, 1) := by decide +kernel
theorem dX11_alwaysKnob_11 : decode cX11_alwaysKnob 11 = .ok (.invokestatic 399, 3) := by decide +kernel
theorem dX11_alwaysKnob_14 : decode cX11_alwaysKnob 14 = .ok (.istore_n 1, 1) := by decide +kernel
theorem dX11_alwaysKnob_15 : decode cX11_alwaysKnob 15 = .ok (.iinc 2 1, 3) := by decide +kernel
theorem dX11_alwaysKnob_18 : decode cX11_alwaysKnob 18 = .ok (.goto (-14), 3) := by decide +kernel
theorem dX11_alwaysKnob_21 : decode cX11_alwaysKnob 21 = .ok (.iload_n 1, 1) := by decide +kernel
theorem dX11_alwaysKnob_22 : decode cX11_alwaysKnob 22 = .ok (.ireturn, 1) := by decide +kernel
noncomputable def F_X11_alwaysKnob_4 (G : GG) (self_4 : Int32 → Int32 → AH → Option (Int32 × AH)) (v1 : Int32) (v2 : Int32) (h : AH) : Option (Int32 × AH) :=
if (6 : Int32) ≤ v2 then (some (v1, h)) else
cb (f_X11_aMileOlder G v1 h) fun r4 h2 =>
nn (v2 + (1 : Int32)) fun x5 =>
self_4 r4 x5 h2
noncomputable def f_X11_alwaysKnob (G : GG) (v0 : Int32) (h : AH) : Option (Int32 × AH) :=
lq2 (F_X11_alwaysKnob_4 G ) bN v0 (0 : Int32) h
set_option maxHeartbeats 4000000 in
set_option maxRecDepth 100000 in
theorem el_X11_alwaysKnob_4 {G : GG} {p : Program} {l : Launch} {e : Env} {s : State} {m : MethodId} {args : Array Value} {below : List Frame} {meth : Method} {c : Code} {y : Int32 × AH} (C : Cx G cX11_alwaysKnob RX11 p s m args meth c) (hm : c.maxLocals = 3) (hr : meth.sig.returnType = (some .int)) (hin : meth.name = yX11_alwaysKnob.name)  :
    ∀ (n : Nat) (v1 : Int32) (v2 : Int32) (h : AH), lq2 (F_X11_alwaysKnob_4 G) n v1 v2 h = some y → EE G p l e ({ frames := 1, cells := 0, slots := 0, locals := 20 } : Room) s m args below meth c (some (.int y.1), y.2) 0 0 4 [(1, .int v1), (2, .int v2)] [] h 0 0 := by
  intro n
  induction n with
  | zero => intro v1 v2 h hf; exact (no_e hf).elim
  | succ n ih_4 =>
    intro v1 v2 h hf
    have hf : F_X11_alwaysKnob_4 G (lq2 (F_X11_alwaysKnob_4 G) n) v1 v2 h = some y := hf
    generalize lq2 (F_X11_alwaysKnob_4 G) n = self_4 at hf ih_4
    unfold F_X11_alwaysKnob_4 at hf
    refine e_iload_n (pc := 4) C dX11_alwaysKnob_4 1 rfl rfl ?_
    refine e_bipush (v := (6 : Int32)) (pc := 5) C dX11_alwaysKnob_5 (by decide) ?_
    rcases it_e hf with ⟨c1, hf⟩ | ⟨c1, hf⟩
    · refine e_icmp_ge (pc := 7) (tgt := 21) C dX11_alwaysKnob_7 (by decide) (fun _ => ?_) (fun q => absurd c1 q)
      refine e_iload_n (pc := 21) C dX11_alwaysKnob_21 0 rfl rfl ?_
      obtain rfl := so_e hf
      exact e_iret (pc := 22) C hr dX11_alwaysKnob_22 (Nat.le_of_ble_eq_true rfl) (Nat.le_of_ble_eq_true rfl)
    · refine e_icmp_ge (pc := 7) (tgt := 21) C dX11_alwaysKnob_7 (by decide) (fun q => absurd q c1) (fun _ => ?_)
      refine e_iload_n (pc := 10) C dX11_alwaysKnob_10 0 rfl rfl ?_
      obtain ⟨r4, h2, y3, hf⟩ := cb_e hf
      refine e_callSi (pc := 11) (st := []) C (ct_X11_aMileOlder y3) dX11_alwaysKnob_11 g785 g786 g146 g787 hd_X11_aMileOlder rfl ⟨Nat.le_of_ble_eq_true rfl, Nat.le_of_ble_eq_true rfl⟩ ⟨Nat.le_of_ble_eq_true rfl, Nat.le_of_ble_eq_true rfl⟩ rfl (Nat.le_of_ble_eq_true rfl) ?_
      refine e_istore_n (pc := 14) (lv2 := [(1, .int r4), (2, .int v2)]) C hm dX11_alwaysKnob_14 rfl (by decide) rfl ?_
      obtain ⟨x5, ex5, hf⟩ := nn_e hf
      refine e_iinc (pc := 15) (v := x5) (lv2 := [(2, .int x5), (1, .int r4)]) C hm dX11_alwaysKnob_15 1 rfl (by rw [ex5]; rfl) (by decide) rfl ?_
      refine e_goto (pc := 18) (tgt := 4) C dX11_alwaysKnob_18 (by decide) ?_
      refine e_lv (lv2 := [(1, .int r4), (2, .int x5)]) [1, 0] rfl ?_
      exact ih_4 r4 x5 h2 hf
set_option maxHeartbeats 4000000 in
set_option maxRecDepth 100000 in
theorem ct_X11_alwaysKnob {G : GG} {l : Launch} {v0 : Int32} {h : AH} {y : Int32 × AH} (hf : f_X11_alwaysKnob G v0 h = some y) : Ct G l yX11_alwaysKnob cX11_alwaysKnob 3 (some .int) 1 20 0 0 [.int v0] h (some (.int y.1), y.2) := by
  refine ct_of (by decide) (Nat.le_of_ble_eq_true rfl) ?_
  intro p e s m args below meth c C hm hr hin
  have C : Cx G cX11_alwaysKnob RX11 p s m args meth c := C
  refine e_lv (lv2 := [(0, .int v0)]) [0] rfl ?_
  unfold f_X11_alwaysKnob at hf
  refine e_iload_n (pc := 0) C dX11_alwaysKnob_0 0 rfl rfl ?_
  refine e_istore_n (pc := 1) (lv2 := [(1, .int v0), (0, .int v0)]) C hm dX11_alwaysKnob_1 rfl (by decide) rfl ?_
  refine e_iconst (v := (0 : Int32)) (pc := 2) C dX11_alwaysKnob_2 (by decide) ?_
  refine e_istore_n (pc := 3) (lv2 := [(2, .int (0 : Int32)), (1, .int v0), (0, .int v0)]) C hm dX11_alwaysKnob_3 rfl (by decide) rfl ?_
  refine e_lv (lv2 := [(1, .int v0), (2, .int (0 : Int32))]) [1, 0] rfl ?_
  exact el_X11_alwaysKnob_4 C hm hr hin bN v0 (0 : Int32) h hf
theorem dX0_seatBits_0 : decode cX0_seatBits 0 = .ok (.iconst 0, 1) := by decide +kernel
theorem dX0_seatBits_1 : decode cX0_seatBits 1 = .ok (.istore_n 1, 1) := by decide +kernel
theorem dX0_seatBits_2 : decode cX0_seatBits 2 = .ok (.iconst 0, 1) := by decide +kernel
theorem dX0_seatBits_3 : decode cX0_seatBits 3 = .ok (.istore_n 2, 1) := by decide +kernel
theorem dX0_seatBits_4 : decode cX0_seatBits 4 = .ok (.iload_n 2, 1) := by decide +kernel
theorem dX0_seatBits_5 : decode cX0_seatBits 5 = .ok (.aload_n 0, 1) := by decide +kernel
theorem dX0_seatBits_6 : decode cX0_seatBits 6 = .ok (.getfield 41, 3) := by decide +kernel
theorem dX0_seatBits_9 : decode cX0_seatBits 9 = .ok (.getfield 62, 3) := by decide +kernel
theorem dX0_seatBits_12 : decode cX0_seatBits 12 = .ok (.if_icmp .ge 34, 3) := by decide +kernel
theorem dX0_seatBits_15 : decode cX0_seatBits 15 = .ok (.iload_n 1, 1) := by decide +kernel
theorem dX0_seatBits_16 : decode cX0_seatBits 16 = .ok (.aload_n 0, 1) := by decide +kernel
theorem dX0_seatBits_17 : decode cX0_seatBits 17 = .ok (.getfield 28, 3) := by decide +kernel
theorem dX0_seatBits_20 : decode cX0_seatBits 20 = .ok (.iload_n 2, 1) := by decide +kernel
theorem dX0_seatBits_21 : decode cX0_seatBits 21 = .ok (.iaload, 1) := by decide +kernel
theorem dX0_seatBits_22 : decode cX0_seatBits 22 = .ok (.iconst (-1), 1) := by decide +kernel
theorem dX0_seatBits_23 : decode cX0_seatBits 23 = .ok (.if_icmp .ne 7, 3) := by decide +kernel
theorem dX0_seatBits_26 : decode cX0_seatBits 26 = .ok (.iconst 0, 1) := by decide +kernel
theorem dX0_seatBits_27 : decode cX0_seatBits 27 = .ok (.goto 11, 3) := by decide +kernel
theorem dX0_seatBits_30 : decode cX0_seatBits 30 = .ok (.iconst 1, 1) := by decide +kernel
theorem dX0_seatBits_31 : decode cX0_seatBits 31 = .ok (.aload_n 0, 1) := by decide +kernel
theorem dX0_seatBits_32 : decode cX0_seatBits 32 = .ok (.getfield 28, 3) := by decide +kernel
theorem dX0_seatBits_35 : decode cX0_seatBits 35 = .ok (.iload_n 2, 1) := by decide +kernel
theorem dX0_seatBits_36 : decode cX0_seatBits 36 = .ok (.iaload, 1) := by decide +kernel
theorem dX0_seatBits_37 : decode cX0_seatBits 37 = .ok (.ishl, 1) := by decide +kernel
theorem dX0_seatBits_38 : decode cX0_seatBits 38 = .ok (.ior, 1) := by decide +kernel
theorem dX0_seatBits_39 : decode cX0_seatBits 39 = .ok (.istore_n 1, 1) := by decide +kernel
theorem dX0_seatBits_40 : decode cX0_seatBits 40 = .ok (.iinc 2 1, 3) := by decide +kernel
theorem dX0_seatBits_43 : decode cX0_seatBits 43 = .ok (.goto (-39), 3) := by decide +kernel
theorem dX0_seatBits_46 : decode cX0_seatBits 46 = .ok (.iload_n 1, 1) := by decide +kernel
theorem dX0_seatBits_47 : decode cX0_seatBits 47 = .ok (.ireturn, 1) := by decide +kernel
noncomputable def F_X0_seatBits_4 (G : GG) (v0 : Nat) (self_4 : Int32 → Int32 → AH → Option (Int32 × AH)) (v1 : Int32) (v2 : Int32) (h : AH) : Option (Int32 × AH) :=
ck (m_t h v0 = .inl 0) <|
ob (m_r h v0 0) fun b2 =>
ck (m_t h b2 = .inl 9) <|
if (m_i h b2 5) ≤ v2 then (some (v1, h)) else
ob (m_r h v0 6) fun b5 =>
ck (ixb h b5 .int v2 = true) <|
nn (fun (s0_38 : Int32) => (nn (v1 ||| s0_38) fun x8 =>
nn (v2 + (1 : Int32)) fun x9 =>
self_4 x8 x9 h)) fun j_38 =>
if (m_i h b5 v2.toNatClampNeg) = (-1 : Int32) then (j_38 (0 : Int32)) else
ob (m_r h v0 6) fun b11 =>
ck (ixb h b11 .int v2 = true) <|
j_38 ((1 : Int32) <<< ((m_i h b11 v2.toNatClampNeg) &&& 31))
noncomputable def f_X0_seatBits (G : GG) (v0 : Nat) (h : AH) : Option (Int32 × AH) :=
lq2 (F_X0_seatBits_4 G v0 ) bN (0 : Int32) (0 : Int32) h
set_option maxHeartbeats 4000000 in
set_option maxRecDepth 100000 in
theorem el_X0_seatBits_4 {G : GG} {p : Program} {l : Launch} {e : Env} {s : State} {m : MethodId} {args : Array Value} {below : List Frame} {meth : Method} {c : Code} {y : Int32 × AH} (C : Cx G cX0_seatBits RX0 p s m args meth c) (hm : c.maxLocals = 3) (hr : meth.sig.returnType = (some .int)) (hin : meth.name = yX0_seatBits.name) {v0 : Nat}  :
    ∀ (n : Nat) (v1 : Int32) (v2 : Int32) (h : AH), lq2 (F_X0_seatBits_4 G v0) n v1 v2 h = some y → EE G p l e ({ frames := 0, cells := 0, slots := 0, locals := 0 } : Room) s m args below meth c (some (.int y.1), y.2) 0 0 4 [(0, .ref v0), (1, .int v1), (2, .int v2)] [] h 0 0 := by
  intro n
  induction n with
  | zero => intro v1 v2 h hf; exact (no_e hf).elim
  | succ n ih_4 =>
    intro v1 v2 h hf
    have hf : F_X0_seatBits_4 G v0 (lq2 (F_X0_seatBits_4 G v0) n) v1 v2 h = some y := hf
    generalize lq2 (F_X0_seatBits_4 G v0) n = self_4 at hf ih_4
    unfold F_X0_seatBits_4 at hf
    refine e_iload_n (pc := 4) C dX0_seatBits_4 2 rfl rfl ?_
    refine e_aload_n (pc := 5) C dX0_seatBits_5 0 rfl rfl ?_
    obtain ⟨t1, hf⟩ := ck_e hf
    refine e_getr (pc := 6) 0 0 C dX0_seatBits_6 (by decide) (by decide) g393 rfl t1 ?_
    obtain ⟨b2, eb2, hf⟩ := ob_e hf
    refine e_rf eb2 ?_
    obtain ⟨t3, hf⟩ := ck_e hf
    refine e_getiN (pc := 9) 9 5 C dX0_seatBits_9 (by decide) (by decide) g334 rfl t3 ?_
    rcases it_e hf with ⟨c4, hf⟩ | ⟨c4, hf⟩
    · refine e_icmp_ge (pc := 12) (tgt := 46) C dX0_seatBits_12 (by decide) (fun _ => ?_) (fun q => absurd c4 q)
      refine e_iload_n (pc := 46) C dX0_seatBits_46 1 rfl rfl ?_
      obtain rfl := so_e hf
      exact e_iret (pc := 47) C hr dX0_seatBits_47 (Nat.le_of_ble_eq_true rfl) (Nat.le_of_ble_eq_true rfl)
    · refine e_icmp_ge (pc := 12) (tgt := 46) C dX0_seatBits_12 (by decide) (fun q => absurd q c4) (fun _ => ?_)
      refine e_iload_n (pc := 15) C dX0_seatBits_15 1 rfl rfl ?_
      refine e_aload_n (pc := 16) C dX0_seatBits_16 0 rfl rfl ?_
      refine e_getr (pc := 17) 0 6 C dX0_seatBits_17 (by decide) (by decide) g421 rfl t1 ?_
      obtain ⟨b5, eb5, hf⟩ := ob_e hf
      refine e_rf eb5 ?_
      refine e_iload_n (pc := 20) C dX0_seatBits_20 2 rfl rfl ?_
      obtain ⟨q6, hf⟩ := ck_e hf
      obtain ⟨n7, tn7, in7⟩ := ix_e q6
      refine e_iald (pc := 21) C dX0_seatBits_21 tn7 in7 ?_
      refine e_iconst (v := (-1 : Int32)) (pc := 22) C dX0_seatBits_22 (by decide) ?_
      obtain ⟨j_38, ej_38, hf⟩ := nn_e hf
      have W_38 : ∀ (s0_38 : Int32), j_38 s0_38 = some y → EE G p l e ({ frames := 0, cells := 0, slots := 0, locals := 0 } : Room) s m args below meth c (some (.int y.1), y.2) 0 0 38 [(0, .ref v0), (2, .int v2)] [.int s0_38, .int v1] h 0 0 := by
        intro s0_38 hf
        rw [ej_38] at hf
        refine e_ior (pc := 38) C dX0_seatBits_38 ?_
        obtain ⟨x8, ex8, hf⟩ := nn_e hf
        refine e_topi ex8 ?_
        refine e_istore_n (pc := 39) (lv2 := [(1, .int x8), (0, .ref v0), (2, .int v2)]) C hm dX0_seatBits_39 rfl (by decide) rfl ?_
        obtain ⟨x9, ex9, hf⟩ := nn_e hf
        refine e_iinc (pc := 40) (v := x9) (lv2 := [(2, .int x9), (1, .int x8), (0, .ref v0)]) C hm dX0_seatBits_40 2 rfl (by rw [ex9]; rfl) (by decide) rfl ?_
        refine e_goto (pc := 43) (tgt := 4) C dX0_seatBits_43 (by decide) ?_
        refine e_lv (lv2 := [(0, .ref v0), (1, .int x8), (2, .int x9)]) [2, 1, 0] rfl ?_
        exact ih_4 x8 x9 h hf
      rcases it_e hf with ⟨c10, hf⟩ | ⟨c10, hf⟩
      · refine e_icmp_ne (pc := 23) (tgt := 30) C dX0_seatBits_23 (by decide) (fun q => absurd c10 q) (fun _ => ?_)
        refine e_iconst (v := (0 : Int32)) (pc := 26) C dX0_seatBits_26 (by decide) ?_
        refine e_goto (pc := 27) (tgt := 38) C dX0_seatBits_27 (by decide) ?_
        refine e_lv (lv2 := [(0, .ref v0), (2, .int v2)]) [0, 2] rfl ?_
        exact W_38 (0 : Int32) hf
      · refine e_icmp_ne (pc := 23) (tgt := 30) C dX0_seatBits_23 (by decide) (fun _ => ?_) (fun q => absurd q c10)
        refine e_iconst (v := (1 : Int32)) (pc := 30) C dX0_seatBits_30 (by decide) ?_
        refine e_aload_n (pc := 31) C dX0_seatBits_31 0 rfl rfl ?_
        refine e_getr (pc := 32) 0 6 C dX0_seatBits_32 (by decide) (by decide) g421 rfl t1 ?_
        obtain ⟨b11, eb11, hf⟩ := ob_e hf
        refine e_rf eb11 ?_
        refine e_iload_n (pc := 35) C dX0_seatBits_35 2 rfl rfl ?_
        obtain ⟨q12, hf⟩ := ck_e hf
        obtain ⟨n13, tn13, in13⟩ := ix_e q12
        refine e_iald (pc := 36) C dX0_seatBits_36 tn13 in13 ?_
        refine e_ishl (pc := 37) C dX0_seatBits_37 ?_
        refine e_lv (lv2 := [(0, .ref v0), (2, .int v2)]) [0, 2] rfl ?_
        exact W_38 ((1 : Int32) <<< ((m_i h b11 v2.toNatClampNeg) &&& 31)) hf
set_option maxHeartbeats 4000000 in
set_option maxRecDepth 100000 in
theorem ct_X0_seatBits {G : GG} {l : Launch} {v0 : Nat} {h : AH} {y : Int32 × AH} (hf : f_X0_seatBits G v0 h = some y) : Ct G l yX0_seatBits cX0_seatBits 3 (some .int) 0 0 0 0 [.ref v0] h (some (.int y.1), y.2) := by
  refine ct_of (by decide) (Nat.le_of_ble_eq_true rfl) ?_
  intro p e s m args below meth c C hm hr hin
  have C : Cx G cX0_seatBits RX0 p s m args meth c := C
  refine e_lv (lv2 := [(0, .ref v0)]) [0] rfl ?_
  unfold f_X0_seatBits at hf
  refine e_iconst (v := (0 : Int32)) (pc := 0) C dX0_seatBits_0 (by decide) ?_
  refine e_istore_n (pc := 1) (lv2 := [(1, .int (0 : Int32)), (0, .ref v0)]) C hm dX0_seatBits_1 rfl (by decide) rfl ?_
  refine e_iconst (v := (0 : Int32)) (pc := 2) C dX0_seatBits_2 (by decide) ?_
  refine e_istore_n (pc := 3) (lv2 := [(2, .int (0 : Int32)), (1, .int (0 : Int32)), (0, .ref v0)]) C hm dX0_seatBits_3 rfl (by decide) rfl ?_
  refine e_lv (lv2 := [(0, .ref v0), (1, .int (0 : Int32)), (2, .int (0 : Int32))]) [2, 1, 0] rfl ?_
  exact el_X0_seatBits_4 C hm hr hin bN (0 : Int32) (0 : Int32) h hf
theorem dX0_placeFor_0 : decode cX0_placeFor 0 = .ok (.aload_n 1, 1) := by decide +kernel
theorem dX0_placeFor_1 : decode cX0_placeFor 1 = .ok (.getfield 161, 3) := by decide +kernel
theorem dX0_placeFor_4 : decode cX0_placeFor 4 = .ok (.ifCond .eq 8, 3) := by decide +kernel
theorem dX0_placeFor_7 : decode cX0_placeFor 7 = .ok (.bipush 15, 2) := by decide +kernel
theorem dX0_placeFor_9 : decode cX0_placeFor 9 = .ok (.goto 6, 3) := by decide +kernel
theorem dX0_placeFor_12 : decode cX0_placeFor 12 = .ok (.sipush 255, 3) := by decide +kernel
theorem dX0_placeFor_15 : decode cX0_placeFor 15 = .ok (.istore_n 2, 1) := by decide +kernel
theorem dX0_placeFor_16 : decode cX0_placeFor 16 = .ok (.iload_n 2, 1) := by decide +kernel
theorem dX0_placeFor_17 : decode cX0_placeFor 17 = .ok (.aload_n 0, 1) := by decide +kernel
theorem dX0_placeFor_18 : decode cX0_placeFor 18 = .ok (.invokevirtual 165, 3) := by decide +kernel
theorem dX0_placeFor_21 : decode cX0_placeFor 21 = .ok (.iconst (-1), 1) := by decide +kernel
theorem dX0_placeFor_22 : decode cX0_placeFor 22 = .ok (.ixor, 1) := by decide +kernel
theorem dX0_placeFor_23 : decode cX0_placeFor 23 = .ok (.iand, 1) := by decide +kernel
theorem dX0_placeFor_24 : decode cX0_placeFor 24 = .ok (.istore_n 3, 1) := by decide +kernel
theorem dX0_placeFor_25 : decode cX0_placeFor 25 = .ok (.iload_n 3, 1) := by decide +kernel
theorem dX0_placeFor_26 : decode cX0_placeFor 26 = .ok (.aload_n 1, 1) := by decide +kernel
theorem dX0_placeFor_27 : decode cX0_placeFor 27 = .ok (.getfield 168, 3) := by decide +kernel
theorem dX0_placeFor_30 : decode cX0_placeFor 30 = .ok (.ishr, 1) := by decide +kernel
theorem dX0_placeFor_31 : decode cX0_placeFor 31 = .ok (.iconst 1, 1) := by decide +kernel
theorem dX0_placeFor_32 : decode cX0_placeFor 32 = .ok (.iand, 1) := by decide +kernel
theorem dX0_placeFor_33 : decode cX0_placeFor 33 = .ok (.ifCond .eq 8, 3) := by decide +kernel
theorem dX0_placeFor_36 : decode cX0_placeFor 36 = .ok (.aload_n 1, 1) := by decide +kernel
theorem dX0_placeFor_37 : decode cX0_placeFor 37 = .ok (.getfield 168, 3) := by decide +kernel
theorem dX0_placeFor_40 : decode cX0_placeFor 40 = .ok (.ireturn, 1) := by decide +kernel
theorem dX0_placeFor_41 : decode cX0_placeFor 41 = .ok (.iconst 0, 1) := by decide +kernel
theorem dX0_placeFor_42 : decode cX0_placeFor 42 = .ok (.istore 4, 2) := by decide +kernel
theorem dX0_placeFor_44 : decode cX0_placeFor 44 = .ok (.iload 4, 2) := by decide +kernel
theorem dX0_placeFor_46 : decode cX0_placeFor 46 = .ok (.bipush 8, 2) := by decide +kernel
theorem dX0_placeFor_48 : decode cX0_placeFor 48 = .ok (.if_icmp .ge 21, 3) := by decide +kernel
theorem dX0_placeFor_51 : decode cX0_placeFor 51 = .ok (.iload_n 3, 1) := by decide +kernel
theorem dX0_placeFor_52 : decode cX0_placeFor 52 = .ok (.iload 4, 2) := by decide +kernel
theorem dX0_placeFor_54 : decode cX0_placeFor 54 = .ok (.ishr, 1) := by decide +kernel
theorem dX0_placeFor_55 : decode cX0_placeFor 55 = .ok (.iconst 1, 1) := by decide +kernel
theorem dX0_placeFor_56 : decode cX0_placeFor 56 = .ok (.iand, 1) := by decide +kernel
theorem dX0_placeFor_57 : decode cX0_placeFor 57 = .ok (.ifCond .eq 6, 3) := by decide +kernel
theorem dX0_placeFor_60 : decode cX0_placeFor 60 = .ok (.iload 4, 2) := by decide +kernel
theorem dX0_placeFor_62 : decode cX0_placeFor 62 = .ok (.ireturn, 1) := by decide +kernel
theorem dX0_placeFor_63 : decode cX0_placeFor 63 = .ok (.iinc 4 1, 3) := by decide +kernel
theorem dX0_placeFor_66 : decode cX0_placeFor 66 = .ok (.goto (-22), 3) := by decide +kernel
theorem dX0_placeFor_69 : decode cX0_placeFor 69 = .ok (.iconst (-1), 1) := by decide +kernel
theorem dX0_placeFor_70 : decode cX0_placeFor 70 = .ok (.ireturn, 1) := by decide +kernel
noncomputable def F_X0_placeFor_44 (G : GG) (v3 : Int32) (self_44 : Int32 → AH → Option (Int32 × AH)) (v4 : Int32) (h : AH) : Option (Int32 × AH) :=
if (8 : Int32) ≤ v4 then (some ((-1 : Int32), h)) else
if ((v3 >>> (v4 &&& 31)) &&& (1 : Int32)) = 0 then (nn (v4 + (1 : Int32)) fun x11 =>
self_44 x11 h) else
some (v4, h)
noncomputable def f_X0_placeFor (G : GG) (v0 : Nat) (v1 : Nat) (h : AH) : Option (Int32 × AH) :=
ck (m_t h v1 = .inl 5) <|
nn (fun (s0_15 : Int32) => (ck (m_t h v0 = .inl 0) <|
cb (f_X0_seatBits G v0 h) fun r5 h3 =>
nn (s0_15 &&& (r5 ^^^ (-1 : Int32))) fun x6 =>
ck (m_t h3 v1 = .inl 5) <|
if ((x6 >>> ((m_i h3 v1 0) &&& 31)) &&& (1 : Int32)) = 0 then (lq1 (F_X0_placeFor_44 G x6 ) bN (0 : Int32) h3) else
some (m_i h3 v1 0, h3))) fun j_15 =>
if (m_i h v1 6) = 0 then (j_15 (255 : Int32)) else
j_15 (15 : Int32)
set_option maxHeartbeats 4000000 in
set_option maxRecDepth 100000 in
theorem el_X0_placeFor_44 {G : GG} {p : Program} {l : Launch} {e : Env} {s : State} {m : MethodId} {args : Array Value} {below : List Frame} {meth : Method} {c : Code} {y : Int32 × AH} (C : Cx G cX0_placeFor RX0 p s m args meth c) (hm : c.maxLocals = 5) (hr : meth.sig.returnType = (some .int)) (hin : meth.name = yX0_placeFor.name) {v3 : Int32}  :
    ∀ (n : Nat) (v4 : Int32) (h : AH), lq1 (F_X0_placeFor_44 G v3) n v4 h = some y → EE G p l e ({ frames := 1, cells := 0, slots := 0, locals := 22 } : Room) s m args below meth c (some (.int y.1), y.2) 0 0 44 [(3, .int v3), (4, .int v4)] [] h 0 0 := by
  intro n
  induction n with
  | zero => intro v4 h hf; exact (no_e hf).elim
  | succ n ih_44 =>
    intro v4 h hf
    have hf : F_X0_placeFor_44 G v3 (lq1 (F_X0_placeFor_44 G v3) n) v4 h = some y := hf
    generalize lq1 (F_X0_placeFor_44 G v3) n = self_44 at hf ih_44
    unfold F_X0_placeFor_44 at hf
    refine e_iload (pc := 44) C dX0_placeFor_44 1 rfl ?_
    refine e_bipush (v := (8 : Int32)) (pc := 46) C dX0_placeFor_46 (by decide) ?_
    rcases it_e hf with ⟨c9, hf⟩ | ⟨c9, hf⟩
    · refine e_icmp_ge (pc := 48) (tgt := 69) C dX0_placeFor_48 (by decide) (fun _ => ?_) (fun q => absurd c9 q)
      refine e_iconst (v := (-1 : Int32)) (pc := 69) C dX0_placeFor_69 (by decide) ?_
      obtain rfl := so_e hf
      exact e_iret (pc := 70) C hr dX0_placeFor_70 (Nat.le_of_ble_eq_true rfl) (Nat.le_of_ble_eq_true rfl)
    · refine e_icmp_ge (pc := 48) (tgt := 69) C dX0_placeFor_48 (by decide) (fun q => absurd q c9) (fun _ => ?_)
      refine e_iload_n (pc := 51) C dX0_placeFor_51 0 rfl rfl ?_
      refine e_iload (pc := 52) C dX0_placeFor_52 1 rfl ?_
      refine e_ishr (pc := 54) C dX0_placeFor_54 ?_
      refine e_iconst (v := (1 : Int32)) (pc := 55) C dX0_placeFor_55 (by decide) ?_
      refine e_iand (pc := 56) C dX0_placeFor_56 ?_
      rcases it_e hf with ⟨c10, hf⟩ | ⟨c10, hf⟩
      · refine e_if_eq (pc := 57) (tgt := 63) C dX0_placeFor_57 (by decide) (fun _ => ?_) (fun q => absurd c10 q)
        obtain ⟨x11, ex11, hf⟩ := nn_e hf
        refine e_iinc (pc := 63) (v := x11) (lv2 := [(4, .int x11), (3, .int v3)]) C hm dX0_placeFor_63 1 rfl (by rw [ex11]; rfl) (by decide) rfl ?_
        refine e_goto (pc := 66) (tgt := 44) C dX0_placeFor_66 (by decide) ?_
        refine e_lv (lv2 := [(3, .int v3), (4, .int x11)]) [1, 0] rfl ?_
        exact ih_44 x11 h hf
      · refine e_if_eq (pc := 57) (tgt := 63) C dX0_placeFor_57 (by decide) (fun q => absurd q c10) (fun _ => ?_)
        refine e_iload (pc := 60) C dX0_placeFor_60 1 rfl ?_
        obtain rfl := so_e hf
        exact e_iret (pc := 62) C hr dX0_placeFor_62 (Nat.le_of_ble_eq_true rfl) (Nat.le_of_ble_eq_true rfl)
set_option maxHeartbeats 4000000 in
set_option maxRecDepth 100000 in
theorem ct_X0_placeFor {G : GG} {l : Launch} {v0 : Nat} {v1 : Nat} {h : AH} {y : Int32 × AH} (hf : f_X0_placeFor G v0 v1 h = some y) : Ct G l yX0_placeFor cX0_placeFor 5 (some .int) 1 22 0 0 [.ref v0, .ref v1] h (some (.int y.1), y.2) := by
  refine ct_of (by decide) (Nat.le_of_ble_eq_true rfl) ?_
  intro p e s m args below meth c C hm hr hin
  have C : Cx G cX0_placeFor RX0 p s m args meth c := C
  refine e_lv (lv2 := [(0, .ref v0), (1, .ref v1)]) [0, 1] rfl ?_
  unfold f_X0_placeFor at hf
  refine e_aload_n (pc := 0) C dX0_placeFor_0 1 rfl rfl ?_
  obtain ⟨t1, hf⟩ := ck_e hf
  refine e_getiN (pc := 1) 5 6 C dX0_placeFor_1 (by decide) (by decide) g296 rfl t1 ?_
  obtain ⟨j_15, ej_15, hf⟩ := nn_e hf
  have W_15 : ∀ (s0_15 : Int32), j_15 s0_15 = some y → EE G p l e ({ frames := 1, cells := 0, slots := 0, locals := 22 } : Room) s m args below meth c (some (.int y.1), y.2) 0 0 15 [(0, .ref v0), (1, .ref v1)] [.int s0_15] h 0 0 := by
    intro s0_15 hf
    rw [ej_15] at hf
    refine e_istore_n (pc := 15) (lv2 := [(2, .int s0_15), (0, .ref v0), (1, .ref v1)]) C hm dX0_placeFor_15 rfl (by decide) rfl ?_
    refine e_iload_n (pc := 16) C dX0_placeFor_16 0 rfl rfl ?_
    refine e_aload_n (pc := 17) C dX0_placeFor_17 1 rfl rfl ?_
    obtain ⟨t2, hf⟩ := ck_e hf
    obtain ⟨r5, h3, y4, hf⟩ := cb_e hf
    refine e_callVi (pc := 18) (st := [.int s0_15]) 0 C (ct_X0_seatBits y4) dX0_placeFor_18 (by decide) t2 g799 g800 g801 g151 g802 hd_X0_seatBits rfl ⟨Nat.le_of_ble_eq_true rfl, Nat.le_of_ble_eq_true rfl⟩ ⟨Nat.le_of_ble_eq_true rfl, Nat.le_of_ble_eq_true rfl⟩ rfl (Nat.le_of_ble_eq_true rfl) ?_
    refine e_iconst (v := (-1 : Int32)) (pc := 21) C dX0_placeFor_21 (by decide) ?_
    refine e_ixor (pc := 22) C dX0_placeFor_22 ?_
    refine e_iand (pc := 23) C dX0_placeFor_23 ?_
    obtain ⟨x6, ex6, hf⟩ := nn_e hf
    refine e_topi ex6 ?_
    refine e_istore_n (pc := 24) (lv2 := [(3, .int x6), (2, .int s0_15), (0, .ref v0), (1, .ref v1)]) C hm dX0_placeFor_24 rfl (by decide) rfl ?_
    refine e_iload_n (pc := 25) C dX0_placeFor_25 0 rfl rfl ?_
    refine e_aload_n (pc := 26) C dX0_placeFor_26 3 rfl rfl ?_
    obtain ⟨t7, hf⟩ := ck_e hf
    refine e_getiN (pc := 27) 5 0 C dX0_placeFor_27 (by decide) (by decide) g274 rfl t7 ?_
    refine e_ishr (pc := 30) C dX0_placeFor_30 ?_
    refine e_iconst (v := (1 : Int32)) (pc := 31) C dX0_placeFor_31 (by decide) ?_
    refine e_iand (pc := 32) C dX0_placeFor_32 ?_
    rcases it_e hf with ⟨c8, hf⟩ | ⟨c8, hf⟩
    · refine e_if_eq (pc := 33) (tgt := 41) C dX0_placeFor_33 (by decide) (fun _ => ?_) (fun q => absurd c8 q)
      refine e_iconst (v := (0 : Int32)) (pc := 41) C dX0_placeFor_41 (by decide) ?_
      refine e_istore (pc := 42) (lv2 := [(4, .int (0 : Int32)), (3, .int x6), (2, .int s0_15), (0, .ref v0), (1, .ref v1)]) C hm dX0_placeFor_42 (by decide) rfl ?_
      refine e_lv (lv2 := [(3, .int x6), (4, .int (0 : Int32))]) [1, 0] rfl ?_
      exact el_X0_placeFor_44 C hm hr hin bN (0 : Int32) h3 hf
    · refine e_if_eq (pc := 33) (tgt := 41) C dX0_placeFor_33 (by decide) (fun q => absurd q c8) (fun _ => ?_)
      refine e_aload_n (pc := 36) C dX0_placeFor_36 3 rfl rfl ?_
      refine e_getiN (pc := 37) 5 0 C dX0_placeFor_37 (by decide) (by decide) g274 rfl t7 ?_
      obtain rfl := so_e hf
      exact e_iret (pc := 40) C hr dX0_placeFor_40 (Nat.le_of_ble_eq_true rfl) (Nat.le_of_ble_eq_true rfl)
  rcases it_e hf with ⟨c12, hf⟩ | ⟨c12, hf⟩
  · refine e_if_eq (pc := 4) (tgt := 12) C dX0_placeFor_4 (by decide) (fun _ => ?_) (fun q => absurd c12 q)
    refine e_sipush (v := (255 : Int32)) (pc := 12) C dX0_placeFor_12 (by decide) ?_
    exact W_15 (255 : Int32) hf
  · refine e_if_eq (pc := 4) (tgt := 12) C dX0_placeFor_4 (by decide) (fun q => absurd q c12) (fun _ => ?_)
    refine e_bipush (v := (15 : Int32)) (pc := 7) C dX0_placeFor_7 (by decide) ?_
    refine e_goto (pc := 9) (tgt := 15) C dX0_placeFor_9 (by decide) ?_
    exact W_15 (15 : Int32) hf
theorem dX0_changeRiders_0 : decode cX0_changeRiders 0 = .ok (.iconst 0, 1) := by decide +kernel
theorem dX0_changeRiders_1 : decode cX0_changeRiders 1 = .ok (.istore_n 1, 1) := by decide +kernel
theorem dX0_changeRiders_2 : decode cX0_changeRiders 2 = .ok (.iload_n 1, 1) := by decide +kernel
theorem dX0_changeRiders_3 : decode cX0_changeRiders 3 = .ok (.aload_n 0, 1) := by decide +kernel
theorem dX0_changeRiders_4 : decode cX0_changeRiders 4 = .ok (.getfield 41, 3) := by decide +kernel
theorem dX0_changeRiders_7 : decode cX0_changeRiders 7 = .ok (.getfield 62, 3) := by decide +kernel
theorem dX0_changeRiders_10 : decode cX0_changeRiders 10 = .ok (.if_icmp .ge 35, 3) := by decide +kernel
theorem dX0_changeRiders_13 : decode cX0_changeRiders 13 = .ok (.aload_n 0, 1) := by decide +kernel
theorem dX0_changeRiders_14 : decode cX0_changeRiders 14 = .ok (.getfield 41, 3) := by decide +kernel
theorem dX0_changeRiders_17 : decode cX0_changeRiders 17 = .ok (.getfield 65, 3) := by decide +kernel
theorem dX0_changeRiders_20 : decode cX0_changeRiders 20 = .ok (.iload_n 1, 1) := by decide +kernel
theorem dX0_changeRiders_21 : decode cX0_changeRiders 21 = .ok (.aaload, 1) := by decide +kernel
theorem dX0_changeRiders_22 : decode cX0_changeRiders 22 = .ok (.getfield 90, 3) := by decide +kernel
theorem dX0_changeRiders_25 : decode cX0_changeRiders 25 = .ok (.aload_n 0, 1) := by decide +kernel
theorem dX0_changeRiders_26 : decode cX0_changeRiders 26 = .ok (.getfield 22, 3) := by decide +kernel
theorem dX0_changeRiders_29 : decode cX0_changeRiders 29 = .ok (.if_icmp .ne 10, 3) := by decide +kernel
theorem dX0_changeRiders_32 : decode cX0_changeRiders 32 = .ok (.aload_n 0, 1) := by decide +kernel
theorem dX0_changeRiders_33 : decode cX0_changeRiders 33 = .ok (.getfield 28, 3) := by decide +kernel
theorem dX0_changeRiders_36 : decode cX0_changeRiders 36 = .ok (.iload_n 1, 1) := by decide +kernel
theorem dX0_changeRiders_37 : decode cX0_changeRiders 37 = .ok (.iconst (-1), 1) := by decide +kernel
theorem dX0_changeRiders_38 : decode cX0_changeRiders 38 = .ok (.iastore, 1) := by decide +kernel
theorem dX0_changeRiders_39 : decode cX0_changeRiders 39 = .ok (.iinc 1 1, 3) := by decide +kernel
theorem dX0_changeRiders_42 : decode cX0_changeRiders 42 = .ok (.goto (-40), 3) := by decide +kernel
theorem dX0_changeRiders_45 : decode cX0_changeRiders 45 = .ok (.iconst 0, 1) := by decide +kernel
theorem dX0_changeRiders_46 : decode cX0_changeRiders 46 = .ok (.istore_n 1, 1) := by decide +kernel
theorem dX0_changeRiders_47 : decode cX0_changeRiders 47 = .ok (.iload_n 1, 1) := by decide +kernel
theorem dX0_changeRiders_48 : decode cX0_changeRiders 48 = .ok (.aload_n 0, 1) := by decide +kernel
theorem dX0_changeRiders_49 : decode cX0_changeRiders 49 = .ok (.getfield 41, 3) := by decide +kernel
theorem dX0_changeRiders_52 : decode cX0_changeRiders 52 = .ok (.getfield 62, 3) := by decide +kernel
theorem dX0_changeRiders_55 : decode cX0_changeRiders 55 = .ok (.if_icmp .ge 47, 3) := by decide +kernel
theorem dX0_changeRiders_58 : decode cX0_changeRiders 58 = .ok (.aload_n 0, 1) := by decide +kernel
theorem dX0_changeRiders_59 : decode cX0_changeRiders 59 = .ok (.getfield 41, 3) := by decide +kernel
theorem dX0_changeRiders_62 : decode cX0_changeRiders 62 = .ok (.getfield 65, 3) := by decide +kernel
theorem dX0_changeRiders_65 : decode cX0_changeRiders 65 = .ok (.iload_n 1, 1) := by decide +kernel
theorem dX0_changeRiders_66 : decode cX0_changeRiders 66 = .ok (.aaload, 1) := by decide +kernel
theorem dX0_changeRiders_67 : decode cX0_changeRiders 67 = .ok (.getfield 87, 3) := by decide +kernel
theorem dX0_changeRiders_70 : decode cX0_changeRiders 70 = .ok (.aload_n 0, 1) := by decide +kernel
theorem dX0_changeRiders_71 : decode cX0_changeRiders 71 = .ok (.getfield 22, 3) := by decide +kernel
theorem dX0_changeRiders_74 : decode cX0_changeRiders 74 = .ok (.if_icmp .ne 22, 3) := by decide +kernel
theorem dX0_changeRiders_77 : decode cX0_changeRiders 77 = .ok (.aload_n 0, 1) := by decide +kernel
theorem dX0_changeRiders_78 : decode cX0_changeRiders 78 = .ok (.getfield 28, 3) := by decide +kernel
theorem dX0_changeRiders_81 : decode cX0_changeRiders 81 = .ok (.iload_n 1, 1) := by decide +kernel
theorem dX0_changeRiders_82 : decode cX0_changeRiders 82 = .ok (.aload_n 0, 1) := by decide +kernel
theorem dX0_changeRiders_83 : decode cX0_changeRiders 83 = .ok (.aload_n 0, 1) := by decide +kernel
theorem dX0_changeRiders_84 : decode cX0_changeRiders 84 = .ok (.getfield 41, 3) := by decide +kernel
theorem dX0_changeRiders_87 : decode cX0_changeRiders 87 = .ok (.getfield 65, 3) := by decide +kernel
theorem dX0_changeRiders_90 : decode cX0_changeRiders 90 = .ok (.iload_n 1, 1) := by decide +kernel
theorem dX0_changeRiders_91 : decode cX0_changeRiders 91 = .ok (.aaload, 1) := by decide +kernel
theorem dX0_changeRiders_92 : decode cX0_changeRiders 92 = .ok (.invokevirtual 157, 3) := by decide +kernel
theorem dX0_changeRiders_95 : decode cX0_changeRiders 95 = .ok (.iastore, 1) := by decide +kernel
theorem dX0_changeRiders_96 : decode cX0_changeRiders 96 = .ok (.iinc 1 1, 3) := by decide +kernel
theorem dX0_changeRiders_99 : decode cX0_changeRiders 99 = .ok (.goto (-52), 3) := by decide +kernel
theorem dX0_changeRiders_102 : decode cX0_changeRiders 102 = .ok (.return_, 1) := by decide +kernel
noncomputable def F_X0_changeRiders_2 (G : GG) (v0 : Nat) (K_45 : AH → Option (AH)) (self_2 : Int32 → AH → Option (AH)) (v1 : Int32) (h : AH) : Option (AH) :=
ck (m_t h v0 = .inl 0) <|
ob (m_r h v0 0) fun b2 =>
ck (m_t h b2 = .inl 9) <|
if (m_i h b2 5) ≤ v1 then (K_45 h) else
ob (m_r h v0 0) fun b5 =>
ck (m_t h b5 = .inl 9) <|
ob (m_r h b5 6) fun b7 =>
ck (ixb h b7 (.object RX5) v1 = true) <|
ob (m_r h b7 v1.toNatClampNeg) fun b10 =>
ck (m_t h b10 = .inl 5) <|
nn (fun (h_39 : AH) => (nn (v1 + (1 : Int32)) fun x12 =>
self_2 x12 h_39)) fun j_39 =>
if (m_i h b10 2) = (m_i h v0 4) then (ob (m_r h v0 6) fun b14 =>
ck (ixb h b14 .int v1 = true) <|
nn (m_si h b14 v1.toNatClampNeg (-1 : Int32)) fun h17 =>
j_39 h17) else
j_39 h
noncomputable def F_X0_changeRiders_47 (G : GG) (v0 : Nat) (self_47 : Int32 → AH → Option (AH)) (v1 : Int32) (h : AH) : Option (AH) :=
ck (m_t h v0 = .inl 0) <|
ob (m_r h v0 0) fun b19 =>
ck (m_t h b19 = .inl 9) <|
if (m_i h b19 5) ≤ v1 then (some h) else
ob (m_r h v0 0) fun b22 =>
ck (m_t h b22 = .inl 9) <|
ob (m_r h b22 6) fun b24 =>
ck (ixb h b24 (.object RX5) v1 = true) <|
ob (m_r h b24 v1.toNatClampNeg) fun b27 =>
ck (m_t h b27 = .inl 5) <|
nn (fun (h_96 : AH) => (nn (v1 + (1 : Int32)) fun x29 =>
self_47 x29 h_96)) fun j_96 =>
if (m_i h b27 1) = (m_i h v0 4) then (ob (m_r h v0 6) fun b31 =>
ob (m_r h v0 0) fun b32 =>
ck (m_t h b32 = .inl 9) <|
ob (m_r h b32 6) fun b34 =>
ck (ixb h b34 (.object RX5) v1 = true) <|
ob (m_r h b34 v1.toNatClampNeg) fun b37 =>
cb (f_X0_placeFor G v0 b37 h) fun r40 h38 =>
ck (ixb h38 b31 .int v1 = true) <|
nn (m_si h38 b31 v1.toNatClampNeg r40) fun h43 =>
j_96 h43) else
j_96 h
noncomputable def f_X0_changeRiders (G : GG) (v0 : Nat) (h : AH) : Option (AH) :=
lq1 (F_X0_changeRiders_2 G v0 (fun (h_45 : AH) => (lq1 (F_X0_changeRiders_47 G v0 ) bN (0 : Int32) h_45))) bN (0 : Int32) h
set_option maxHeartbeats 4000000 in
set_option maxRecDepth 100000 in
theorem el_X0_changeRiders_2 {G : GG} {p : Program} {l : Launch} {e : Env} {s : State} {m : MethodId} {args : Array Value} {below : List Frame} {meth : Method} {c : Code} {y : AH} (C : Cx G cX0_changeRiders RX0 p s m args meth c) (hm : c.maxLocals = 2) (hr : meth.sig.returnType = none) (hin : meth.name = yX0_changeRiders.name) {v0 : Nat} {K_45 : AH → Option (AH)} (hK_45 : ∀ (h : AH), K_45 h = some y → EE G p l e ({ frames := 2, cells := 0, slots := 0, locals := 46 } : Room) s m args below meth c (none, y) 0 0 45 [(0, .ref v0)] [] h 0 0) :
    ∀ (n : Nat) (v1 : Int32) (h : AH), lq1 (F_X0_changeRiders_2 G v0 K_45) n v1 h = some y → EE G p l e ({ frames := 2, cells := 0, slots := 0, locals := 46 } : Room) s m args below meth c (none, y) 0 0 2 [(0, .ref v0), (1, .int v1)] [] h 0 0 := by
  intro n
  induction n with
  | zero => intro v1 h hf; exact (no_e hf).elim
  | succ n ih_2 =>
    intro v1 h hf
    have hf : F_X0_changeRiders_2 G v0 K_45 (lq1 (F_X0_changeRiders_2 G v0 K_45) n) v1 h = some y := hf
    generalize lq1 (F_X0_changeRiders_2 G v0 K_45) n = self_2 at hf ih_2
    unfold F_X0_changeRiders_2 at hf
    refine e_iload_n (pc := 2) C dX0_changeRiders_2 1 rfl rfl ?_
    refine e_aload_n (pc := 3) C dX0_changeRiders_3 0 rfl rfl ?_
    obtain ⟨t1, hf⟩ := ck_e hf
    refine e_getr (pc := 4) 0 0 C dX0_changeRiders_4 (by decide) (by decide) g393 rfl t1 ?_
    obtain ⟨b2, eb2, hf⟩ := ob_e hf
    refine e_rf eb2 ?_
    obtain ⟨t3, hf⟩ := ck_e hf
    refine e_getiN (pc := 7) 9 5 C dX0_changeRiders_7 (by decide) (by decide) g334 rfl t3 ?_
    rcases it_e hf with ⟨c4, hf⟩ | ⟨c4, hf⟩
    · refine e_icmp_ge (pc := 10) (tgt := 45) C dX0_changeRiders_10 (by decide) (fun _ => ?_) (fun q => absurd c4 q)
      refine e_lv (lv2 := [(0, .ref v0)]) [0] rfl ?_
      exact hK_45 h hf
    · refine e_icmp_ge (pc := 10) (tgt := 45) C dX0_changeRiders_10 (by decide) (fun q => absurd q c4) (fun _ => ?_)
      refine e_aload_n (pc := 13) C dX0_changeRiders_13 0 rfl rfl ?_
      refine e_getr (pc := 14) 0 0 C dX0_changeRiders_14 (by decide) (by decide) g393 rfl t1 ?_
      obtain ⟨b5, eb5, hf⟩ := ob_e hf
      refine e_rf eb5 ?_
      obtain ⟨t6, hf⟩ := ck_e hf
      refine e_getrN (pc := 17) 9 6 C dX0_changeRiders_17 (by decide) (by decide) g340 rfl t6 ?_
      obtain ⟨b7, eb7, hf⟩ := ob_e hf
      refine e_rf eb7 ?_
      refine e_iload_n (pc := 20) C dX0_changeRiders_20 1 rfl rfl ?_
      obtain ⟨q8, hf⟩ := ck_e hf
      obtain ⟨n9, tn9, in9⟩ := ix_e q8
      refine e_aald (pc := 21) 4 rfl C dX0_changeRiders_21 tn9 in9 ?_
      obtain ⟨b10, eb10, hf⟩ := ob_e hf
      refine e_rf eb10 ?_
      obtain ⟨t11, hf⟩ := ck_e hf
      refine e_getiN (pc := 22) 5 2 C dX0_changeRiders_22 (by decide) (by decide) g279 rfl t11 ?_
      refine e_aload_n (pc := 25) C dX0_changeRiders_25 0 rfl rfl ?_
      refine e_geti (pc := 26) 0 4 C dX0_changeRiders_26 (by decide) (by decide) g412 rfl t1 ?_
      obtain ⟨j_39, ej_39, hf⟩ := nn_e hf
      have W_39 : ∀ (h_39 : AH), j_39 h_39 = some y → EE G p l e ({ frames := 2, cells := 0, slots := 0, locals := 46 } : Room) s m args below meth c (none, y) 0 0 39 [(0, .ref v0), (1, .int v1)] [] h_39 0 0 := by
        intro h_39 hf
        rw [ej_39] at hf
        obtain ⟨x12, ex12, hf⟩ := nn_e hf
        refine e_iinc (pc := 39) (v := x12) (lv2 := [(1, .int x12), (0, .ref v0)]) C hm dX0_changeRiders_39 1 rfl (by rw [ex12]; rfl) (by decide) rfl ?_
        refine e_goto (pc := 42) (tgt := 2) C dX0_changeRiders_42 (by decide) ?_
        refine e_lv (lv2 := [(0, .ref v0), (1, .int x12)]) [1, 0] rfl ?_
        exact ih_2 x12 h_39 hf
      rcases it_e hf with ⟨c13, hf⟩ | ⟨c13, hf⟩
      · refine e_icmp_ne (pc := 29) (tgt := 39) C dX0_changeRiders_29 (by decide) (fun q => absurd c13 q) (fun _ => ?_)
        refine e_aload_n (pc := 32) C dX0_changeRiders_32 0 rfl rfl ?_
        refine e_getr (pc := 33) 0 6 C dX0_changeRiders_33 (by decide) (by decide) g421 rfl t1 ?_
        obtain ⟨b14, eb14, hf⟩ := ob_e hf
        refine e_rf eb14 ?_
        refine e_iload_n (pc := 36) C dX0_changeRiders_36 1 rfl rfl ?_
        refine e_iconst (v := (-1 : Int32)) (pc := 37) C dX0_changeRiders_37 (by decide) ?_
        obtain ⟨q15, hf⟩ := ck_e hf
        obtain ⟨n16, tn16, in16⟩ := ix_e q15
        refine e_iast (pc := 38) C dX0_changeRiders_38 tn16 in16 ?_
        obtain ⟨h17, eh17, hf⟩ := nn_e hf
        refine e_hp eh17 ?_
        have uh17 : m_t h17 = m_t h := by rw [eh17]; exact rfl
        exact W_39 h17 hf
      · refine e_icmp_ne (pc := 29) (tgt := 39) C dX0_changeRiders_29 (by decide) (fun _ => ?_) (fun q => absurd q c13)
        exact W_39 h hf
set_option maxHeartbeats 4000000 in
set_option maxRecDepth 100000 in
theorem el_X0_changeRiders_47 {G : GG} {p : Program} {l : Launch} {e : Env} {s : State} {m : MethodId} {args : Array Value} {below : List Frame} {meth : Method} {c : Code} {y : AH} (C : Cx G cX0_changeRiders RX0 p s m args meth c) (hm : c.maxLocals = 2) (hr : meth.sig.returnType = none) (hin : meth.name = yX0_changeRiders.name) {v0 : Nat}  :
    ∀ (n : Nat) (v1 : Int32) (h : AH), lq1 (F_X0_changeRiders_47 G v0) n v1 h = some y → EE G p l e ({ frames := 2, cells := 0, slots := 0, locals := 46 } : Room) s m args below meth c (none, y) 0 0 47 [(0, .ref v0), (1, .int v1)] [] h 0 0 := by
  intro n
  induction n with
  | zero => intro v1 h hf; exact (no_e hf).elim
  | succ n ih_47 =>
    intro v1 h hf
    have hf : F_X0_changeRiders_47 G v0 (lq1 (F_X0_changeRiders_47 G v0) n) v1 h = some y := hf
    generalize lq1 (F_X0_changeRiders_47 G v0) n = self_47 at hf ih_47
    unfold F_X0_changeRiders_47 at hf
    refine e_iload_n (pc := 47) C dX0_changeRiders_47 1 rfl rfl ?_
    refine e_aload_n (pc := 48) C dX0_changeRiders_48 0 rfl rfl ?_
    obtain ⟨t18, hf⟩ := ck_e hf
    refine e_getr (pc := 49) 0 0 C dX0_changeRiders_49 (by decide) (by decide) g393 rfl t18 ?_
    obtain ⟨b19, eb19, hf⟩ := ob_e hf
    refine e_rf eb19 ?_
    obtain ⟨t20, hf⟩ := ck_e hf
    refine e_getiN (pc := 52) 9 5 C dX0_changeRiders_52 (by decide) (by decide) g334 rfl t20 ?_
    rcases it_e hf with ⟨c21, hf⟩ | ⟨c21, hf⟩
    · refine e_icmp_ge (pc := 55) (tgt := 102) C dX0_changeRiders_55 (by decide) (fun _ => ?_) (fun q => absurd c21 q)
      obtain rfl := so_e hf
      exact e_vret (pc := 102) C hr dX0_changeRiders_102 (Nat.le_of_ble_eq_true rfl) (Nat.le_of_ble_eq_true rfl)
    · refine e_icmp_ge (pc := 55) (tgt := 102) C dX0_changeRiders_55 (by decide) (fun q => absurd q c21) (fun _ => ?_)
      refine e_aload_n (pc := 58) C dX0_changeRiders_58 0 rfl rfl ?_
      refine e_getr (pc := 59) 0 0 C dX0_changeRiders_59 (by decide) (by decide) g393 rfl t18 ?_
      obtain ⟨b22, eb22, hf⟩ := ob_e hf
      refine e_rf eb22 ?_
      obtain ⟨t23, hf⟩ := ck_e hf
      refine e_getrN (pc := 62) 9 6 C dX0_changeRiders_62 (by decide) (by decide) g340 rfl t23 ?_
      obtain ⟨b24, eb24, hf⟩ := ob_e hf
      refine e_rf eb24 ?_
      refine e_iload_n (pc := 65) C dX0_changeRiders_65 1 rfl rfl ?_
      obtain ⟨q25, hf⟩ := ck_e hf
      obtain ⟨n26, tn26, in26⟩ := ix_e q25
      refine e_aald (pc := 66) 4 rfl C dX0_changeRiders_66 tn26 in26 ?_
      obtain ⟨b27, eb27, hf⟩ := ob_e hf
      refine e_rf eb27 ?_
      obtain ⟨t28, hf⟩ := ck_e hf
      refine e_getiN (pc := 67) 5 1 C dX0_changeRiders_67 (by decide) (by decide) g276 rfl t28 ?_
      refine e_aload_n (pc := 70) C dX0_changeRiders_70 0 rfl rfl ?_
      refine e_geti (pc := 71) 0 4 C dX0_changeRiders_71 (by decide) (by decide) g412 rfl t18 ?_
      obtain ⟨j_96, ej_96, hf⟩ := nn_e hf
      have W_96 : ∀ (h_96 : AH), j_96 h_96 = some y → EE G p l e ({ frames := 2, cells := 0, slots := 0, locals := 46 } : Room) s m args below meth c (none, y) 0 0 96 [(0, .ref v0), (1, .int v1)] [] h_96 0 0 := by
        intro h_96 hf
        rw [ej_96] at hf
        obtain ⟨x29, ex29, hf⟩ := nn_e hf
        refine e_iinc (pc := 96) (v := x29) (lv2 := [(1, .int x29), (0, .ref v0)]) C hm dX0_changeRiders_96 1 rfl (by rw [ex29]; rfl) (by decide) rfl ?_
        refine e_goto (pc := 99) (tgt := 47) C dX0_changeRiders_99 (by decide) ?_
        refine e_lv (lv2 := [(0, .ref v0), (1, .int x29)]) [1, 0] rfl ?_
        exact ih_47 x29 h_96 hf
      rcases it_e hf with ⟨c30, hf⟩ | ⟨c30, hf⟩
      · refine e_icmp_ne (pc := 74) (tgt := 96) C dX0_changeRiders_74 (by decide) (fun q => absurd c30 q) (fun _ => ?_)
        refine e_aload_n (pc := 77) C dX0_changeRiders_77 0 rfl rfl ?_
        refine e_getr (pc := 78) 0 6 C dX0_changeRiders_78 (by decide) (by decide) g421 rfl t18 ?_
        obtain ⟨b31, eb31, hf⟩ := ob_e hf
        refine e_rf eb31 ?_
        refine e_iload_n (pc := 81) C dX0_changeRiders_81 1 rfl rfl ?_
        refine e_aload_n (pc := 82) C dX0_changeRiders_82 0 rfl rfl ?_
        refine e_aload_n (pc := 83) C dX0_changeRiders_83 0 rfl rfl ?_
        refine e_getr (pc := 84) 0 0 C dX0_changeRiders_84 (by decide) (by decide) g393 rfl t18 ?_
        obtain ⟨b32, eb32, hf⟩ := ob_e hf
        refine e_rf eb32 ?_
        obtain ⟨t33, hf⟩ := ck_e hf
        refine e_getrN (pc := 87) 9 6 C dX0_changeRiders_87 (by decide) (by decide) g340 rfl t33 ?_
        obtain ⟨b34, eb34, hf⟩ := ob_e hf
        refine e_rf eb34 ?_
        refine e_iload_n (pc := 90) C dX0_changeRiders_90 1 rfl rfl ?_
        obtain ⟨q35, hf⟩ := ck_e hf
        obtain ⟨n36, tn36, in36⟩ := ix_e q35
        refine e_aald (pc := 91) 4 rfl C dX0_changeRiders_91 tn36 in36 ?_
        obtain ⟨b37, eb37, hf⟩ := ob_e hf
        refine e_rf eb37 ?_
        obtain ⟨r40, h38, y39, hf⟩ := cb_e hf
        refine e_callVi (pc := 92) (st := [.int v1, .ref b31]) 0 C (ct_X0_placeFor y39) dX0_changeRiders_92 (by decide) t18 g795 g797 g15 g151 g798 hd_X0_placeFor rfl ⟨Nat.le_of_ble_eq_true rfl, Nat.le_of_ble_eq_true rfl⟩ ⟨Nat.le_of_ble_eq_true rfl, Nat.le_of_ble_eq_true rfl⟩ rfl (Nat.le_of_ble_eq_true rfl) ?_
        obtain ⟨q41, hf⟩ := ck_e hf
        obtain ⟨n42, tn42, in42⟩ := ix_e q41
        refine e_iast (pc := 95) C dX0_changeRiders_95 tn42 in42 ?_
        obtain ⟨h43, eh43, hf⟩ := nn_e hf
        refine e_hp eh43 ?_
        have uh43 : m_t h43 = m_t h38 := by rw [eh43]; exact rfl
        exact W_96 h43 hf
      · refine e_icmp_ne (pc := 74) (tgt := 96) C dX0_changeRiders_74 (by decide) (fun _ => ?_) (fun q => absurd q c30)
        exact W_96 h hf
set_option maxHeartbeats 4000000 in
set_option maxRecDepth 100000 in
theorem ct_X0_changeRiders {G : GG} {l : Launch} {v0 : Nat} {h : AH} {y : AH} (hf : f_X0_changeRiders G v0 h = some y) : Ct G l yX0_changeRiders cX0_changeRiders 2 none 2 46 0 0 [.ref v0] h (none, y) := by
  refine ct_of (by decide) (Nat.le_of_ble_eq_true rfl) ?_
  intro p e s m args below meth c C hm hr hin
  have C : Cx G cX0_changeRiders RX0 p s m args meth c := C
  refine e_lv (lv2 := [(0, .ref v0)]) [0] rfl ?_
  unfold f_X0_changeRiders at hf
  refine e_iconst (v := (0 : Int32)) (pc := 0) C dX0_changeRiders_0 (by decide) ?_
  refine e_istore_n (pc := 1) (lv2 := [(1, .int (0 : Int32)), (0, .ref v0)]) C hm dX0_changeRiders_1 rfl (by decide) rfl ?_
  refine e_lv (lv2 := [(0, .ref v0), (1, .int (0 : Int32))]) [1, 0] rfl ?_
  refine el_X0_changeRiders_2 C hm hr hin (fun h_45 hf => ?_) bN (0 : Int32) h hf
  refine e_iconst (v := (0 : Int32)) (pc := 45) C dX0_changeRiders_45 (by decide) ?_
  refine e_istore_n (pc := 46) (lv2 := [(1, .int (0 : Int32)), (0, .ref v0)]) C hm dX0_changeRiders_46 rfl (by decide) rfl ?_
  refine e_lv (lv2 := [(0, .ref v0), (1, .int (0 : Int32))]) [1, 0] rfl ?_
  exact el_X0_changeRiders_47 C hm hr hin bN (0 : Int32) h_45 hf
theorem dX0_begin_0 : decode cX0_begin 0 = .ok (.aload_n 0, 1) := by decide +kernel
theorem dX0_begin_1 : decode cX0_begin 1 = .ok (.aload_n 0, 1) := by decide +kernel
theorem dX0_begin_2 : decode cX0_begin 2 = .ok (.getfield 41, 3) := by decide +kernel
theorem dX0_begin_5 : decode cX0_begin 5 = .ok (.getfield 45, 3) := by decide +kernel
theorem dX0_begin_8 : decode cX0_begin 8 = .ok (.putfield 15, 3) := by decide +kernel
theorem dX0_begin_11 : decode cX0_begin 11 = .ok (.aload_n 0, 1) := by decide +kernel
theorem dX0_begin_12 : decode cX0_begin 12 = .ok (.aload_n 0, 1) := by decide +kernel
theorem dX0_begin_13 : decode cX0_begin 13 = .ok (.getfield 41, 3) := by decide +kernel
theorem dX0_begin_16 : decode cX0_begin 16 = .ok (.getfield 48, 3) := by decide +kernel
theorem dX0_begin_19 : decode cX0_begin 19 = .ok (.putfield 19, 3) := by decide +kernel
theorem dX0_begin_22 : decode cX0_begin 22 = .ok (.aload_n 0, 1) := by decide +kernel
theorem dX0_begin_23 : decode cX0_begin 23 = .ok (.aload_n 0, 1) := by decide +kernel
theorem dX0_begin_24 : decode cX0_begin 24 = .ok (.getfield 41, 3) := by decide +kernel
theorem dX0_begin_27 : decode cX0_begin 27 = .ok (.getfield 49, 3) := by decide +kernel
theorem dX0_begin_30 : decode cX0_begin 30 = .ok (.invokestatic 52, 3) := by decide +kernel
theorem dX0_begin_33 : decode cX0_begin 33 = .ok (.putfield 25, 3) := by decide +kernel
theorem dX0_begin_36 : decode cX0_begin 36 = .ok (.aload_n 0, 1) := by decide +kernel
theorem dX0_begin_37 : decode cX0_begin 37 = .ok (.getfield 28, 3) := by decide +kernel
theorem dX0_begin_40 : decode cX0_begin 40 = .ok (.iconst (-1), 1) := by decide +kernel
theorem dX0_begin_41 : decode cX0_begin 41 = .ok (.invokestatic 56, 3) := by decide +kernel
theorem dX0_begin_44 : decode cX0_begin 44 = .ok (.iconst 0, 1) := by decide +kernel
theorem dX0_begin_45 : decode cX0_begin 45 = .ok (.istore_n 1, 1) := by decide +kernel
theorem dX0_begin_46 : decode cX0_begin 46 = .ok (.iload_n 1, 1) := by decide +kernel
theorem dX0_begin_47 : decode cX0_begin 47 = .ok (.aload_n 0, 1) := by decide +kernel
theorem dX0_begin_48 : decode cX0_begin 48 = .ok (.getfield 41, 3) := by decide +kernel
theorem dX0_begin_51 : decode cX0_begin 51 = .ok (.getfield 62, 3) := by decide +kernel
theorem dX0_begin_54 : decode cX0_begin 54 = .ok (.if_icmp .ge 27, 3) := by decide +kernel
theorem dX0_begin_57 : decode cX0_begin 57 = .ok (.aload_n 0, 1) := by decide +kernel
theorem dX0_begin_58 : decode cX0_begin 58 = .ok (.getfield 38, 3) := by decide +kernel
theorem dX0_begin_61 : decode cX0_begin 61 = .ok (.iload_n 1, 1) := by decide +kernel
theorem dX0_begin_62 : decode cX0_begin 62 = .ok (.aload_n 0, 1) := by decide +kernel
theorem dX0_begin_63 : decode cX0_begin 63 = .ok (.getfield 41, 3) := by decide +kernel
theorem dX0_begin_66 : decode cX0_begin 66 = .ok (.getfield 65, 3) := by decide +kernel
theorem dX0_begin_69 : decode cX0_begin 69 = .ok (.iload_n 1, 1) := by decide +kernel
theorem dX0_begin_70 : decode cX0_begin 70 = .ok (.aaload, 1) := by decide +kernel
theorem dX0_begin_71 : decode cX0_begin 71 = .ok (.getfield 69, 3) := by decide +kernel
theorem dX0_begin_74 : decode cX0_begin 74 = .ok (.iastore, 1) := by decide +kernel
theorem dX0_begin_75 : decode cX0_begin 75 = .ok (.iinc 1 1, 3) := by decide +kernel
theorem dX0_begin_78 : decode cX0_begin 78 = .ok (.goto (-32), 3) := by decide +kernel
theorem dX0_begin_81 : decode cX0_begin 81 = .ok (.aload_n 0, 1) := by decide +kernel
theorem dX0_begin_82 : decode cX0_begin 82 = .ok (.invokevirtual 74, 3) := by decide +kernel
theorem dX0_begin_85 : decode cX0_begin 85 = .ok (.return_, 1) := by decide +kernel
noncomputable def F_X0_begin_46 (G : GG) (v0 : Nat) (K_81 : AH → Option (AH)) (self_46 : Int32 → AH → Option (AH)) (v1 : Int32) (h : AH) : Option (AH) :=
ck (m_t h v0 = .inl 0) <|
ob (m_r h v0 0) fun b19 =>
ck (m_t h b19 = .inl 9) <|
if (m_i h b19 5) ≤ v1 then (K_81 h) else
ob (m_r h v0 9) fun b22 =>
ob (m_r h v0 0) fun b23 =>
ck (m_t h b23 = .inl 9) <|
ob (m_r h b23 6) fun b25 =>
ck (ixb h b25 (.object RX5) v1 = true) <|
ob (m_r h b25 v1.toNatClampNeg) fun b28 =>
ck (m_t h b28 = .inl 5) <|
ck (ixb h b22 .int v1 = true) <|
nn (m_si h b22 v1.toNatClampNeg (m_i h b28 5)) fun h32 =>
nn (v1 + (1 : Int32)) fun x33 =>
self_46 x33 h32
noncomputable def f_X0_begin (G : GG) (v0 : Nat) (h : AH) : Option (AH) :=
ck (m_t h v0 = .inl 0) <|
ob (m_r h v0 0) fun b2 =>
ck (m_t h b2 = .inl 9) <|
nn (m_si h v0 2 (m_i h b2 4)) fun h4 =>
ob (m_r h4 v0 0) fun b5 =>
ck (m_t h4 b5 = .inl 9) <|
nn (m_si h4 v0 3 (m_i h4 b5 1)) fun h7 =>
ob (m_r h7 v0 0) fun b8 =>
ck (m_t h7 b8 = .inl 9) <|
cb (f_X11_alwaysKnob G (m_i h7 b8 2) h7) fun r12 h10 =>
ck (m_t h10 v0 = .inl 0) <|
nn (m_si h10 v0 5 r12) fun h14 =>
ob (m_r h14 v0 6) fun b15 =>
ob (f_J7_fill_53178 G b15 (-1 : Int32) h14) fun h16 =>
lq1 (F_X0_begin_46 G v0 (fun (h_81 : AH) => (ck (m_t h_81 v0 = .inl 0) <|
ob (f_X0_changeRiders G v0 h_81) fun h35 =>
some h35))) bN (0 : Int32) h16
set_option maxHeartbeats 4000000 in
set_option maxRecDepth 100000 in
theorem el_X0_begin_46 {G : GG} {p : Program} {l : Launch} {e : Env} {s : State} {m : MethodId} {args : Array Value} {below : List Frame} {meth : Method} {c : Code} {y : AH} (C : Cx G cX0_begin RX0 p s m args meth c) (hm : c.maxLocals = 2) (hr : meth.sig.returnType = none) (hin : meth.name = yX0_begin.name) {v0 : Nat} {K_81 : AH → Option (AH)} (hK_81 : ∀ (h : AH), K_81 h = some y → EE G p l e ({ frames := 3, cells := 0, slots := 0, locals := 67 } : Room) s m args below meth c (none, y) 0 0 81 [(0, .ref v0)] [] h 0 0) :
    ∀ (n : Nat) (v1 : Int32) (h : AH), lq1 (F_X0_begin_46 G v0 K_81) n v1 h = some y → EE G p l e ({ frames := 3, cells := 0, slots := 0, locals := 67 } : Room) s m args below meth c (none, y) 0 0 46 [(0, .ref v0), (1, .int v1)] [] h 0 0 := by
  intro n
  induction n with
  | zero => intro v1 h hf; exact (no_e hf).elim
  | succ n ih_46 =>
    intro v1 h hf
    have hf : F_X0_begin_46 G v0 K_81 (lq1 (F_X0_begin_46 G v0 K_81) n) v1 h = some y := hf
    generalize lq1 (F_X0_begin_46 G v0 K_81) n = self_46 at hf ih_46
    unfold F_X0_begin_46 at hf
    refine e_iload_n (pc := 46) C dX0_begin_46 1 rfl rfl ?_
    refine e_aload_n (pc := 47) C dX0_begin_47 0 rfl rfl ?_
    obtain ⟨t18, hf⟩ := ck_e hf
    refine e_getr (pc := 48) 0 0 C dX0_begin_48 (by decide) (by decide) g393 rfl t18 ?_
    obtain ⟨b19, eb19, hf⟩ := ob_e hf
    refine e_rf eb19 ?_
    obtain ⟨t20, hf⟩ := ck_e hf
    refine e_getiN (pc := 51) 9 5 C dX0_begin_51 (by decide) (by decide) g334 rfl t20 ?_
    rcases it_e hf with ⟨c21, hf⟩ | ⟨c21, hf⟩
    · refine e_icmp_ge (pc := 54) (tgt := 81) C dX0_begin_54 (by decide) (fun _ => ?_) (fun q => absurd c21 q)
      refine e_lv (lv2 := [(0, .ref v0)]) [0] rfl ?_
      exact hK_81 h hf
    · refine e_icmp_ge (pc := 54) (tgt := 81) C dX0_begin_54 (by decide) (fun q => absurd q c21) (fun _ => ?_)
      refine e_aload_n (pc := 57) C dX0_begin_57 0 rfl rfl ?_
      refine e_getr (pc := 58) 0 9 C dX0_begin_58 (by decide) (by decide) g430 rfl t18 ?_
      obtain ⟨b22, eb22, hf⟩ := ob_e hf
      refine e_rf eb22 ?_
      refine e_iload_n (pc := 61) C dX0_begin_61 1 rfl rfl ?_
      refine e_aload_n (pc := 62) C dX0_begin_62 0 rfl rfl ?_
      refine e_getr (pc := 63) 0 0 C dX0_begin_63 (by decide) (by decide) g393 rfl t18 ?_
      obtain ⟨b23, eb23, hf⟩ := ob_e hf
      refine e_rf eb23 ?_
      obtain ⟨t24, hf⟩ := ck_e hf
      refine e_getrN (pc := 66) 9 6 C dX0_begin_66 (by decide) (by decide) g340 rfl t24 ?_
      obtain ⟨b25, eb25, hf⟩ := ob_e hf
      refine e_rf eb25 ?_
      refine e_iload_n (pc := 69) C dX0_begin_69 1 rfl rfl ?_
      obtain ⟨q26, hf⟩ := ck_e hf
      obtain ⟨n27, tn27, in27⟩ := ix_e q26
      refine e_aald (pc := 70) 4 rfl C dX0_begin_70 tn27 in27 ?_
      obtain ⟨b28, eb28, hf⟩ := ob_e hf
      refine e_rf eb28 ?_
      obtain ⟨t29, hf⟩ := ck_e hf
      refine e_getiN (pc := 71) 5 5 C dX0_begin_71 (by decide) (by decide) g291 rfl t29 ?_
      obtain ⟨q30, hf⟩ := ck_e hf
      obtain ⟨n31, tn31, in31⟩ := ix_e q30
      refine e_iast (pc := 74) C dX0_begin_74 tn31 in31 ?_
      obtain ⟨h32, eh32, hf⟩ := nn_e hf
      refine e_hp eh32 ?_
      have uh32 : m_t h32 = m_t h := by rw [eh32]; exact rfl
      obtain ⟨x33, ex33, hf⟩ := nn_e hf
      refine e_iinc (pc := 75) (v := x33) (lv2 := [(1, .int x33), (0, .ref v0)]) C hm dX0_begin_75 1 rfl (by rw [ex33]; rfl) (by decide) rfl ?_
      refine e_goto (pc := 78) (tgt := 46) C dX0_begin_78 (by decide) ?_
      refine e_lv (lv2 := [(0, .ref v0), (1, .int x33)]) [1, 0] rfl ?_
      exact ih_46 x33 h32 hf
set_option maxHeartbeats 4000000 in
set_option maxRecDepth 100000 in
theorem ct_X0_begin {G : GG} {l : Launch} {v0 : Nat} {h : AH} {y : AH} (hf : f_X0_begin G v0 h = some y) : Ct G l yX0_begin cX0_begin 2 none 3 67 0 0 [.ref v0] h (none, y) := by
  refine ct_of (by decide) (Nat.le_of_ble_eq_true rfl) ?_
  intro p e s m args below meth c C hm hr hin
  have C : Cx G cX0_begin RX0 p s m args meth c := C
  refine e_lv (lv2 := [(0, .ref v0)]) [0] rfl ?_
  unfold f_X0_begin at hf
  refine e_aload_n (pc := 0) C dX0_begin_0 0 rfl rfl ?_
  refine e_aload_n (pc := 1) C dX0_begin_1 0 rfl rfl ?_
  obtain ⟨t1, hf⟩ := ck_e hf
  refine e_getr (pc := 2) 0 0 C dX0_begin_2 (by decide) (by decide) g393 rfl t1 ?_
  obtain ⟨b2, eb2, hf⟩ := ob_e hf
  refine e_rf eb2 ?_
  obtain ⟨t3, hf⟩ := ck_e hf
  refine e_getiN (pc := 5) 9 4 C dX0_begin_5 (by decide) (by decide) g330 rfl t3 ?_
  refine e_puti (pc := 8) 0 2 C dX0_begin_8 (by decide) (by decide) g402 rfl rfl rfl rfl t1 ?_
  obtain ⟨h4, eh4, hf⟩ := nn_e hf
  refine e_hp eh4 ?_
  have uh4 : m_t h4 = m_t h := by rw [eh4]; exact rfl
  refine e_aload_n (pc := 11) C dX0_begin_11 0 rfl rfl ?_
  refine e_aload_n (pc := 12) C dX0_begin_12 0 rfl rfl ?_
  refine e_getr (pc := 13) 0 0 C dX0_begin_13 (by decide) (by decide) g393 rfl (e_mt uh4 t1) ?_
  obtain ⟨b5, eb5, hf⟩ := ob_e hf
  refine e_rf eb5 ?_
  obtain ⟨t6, hf⟩ := ck_e hf
  refine e_getiN (pc := 16) 9 1 C dX0_begin_16 (by decide) (by decide) g316 rfl t6 ?_
  refine e_puti (pc := 19) 0 3 C dX0_begin_19 (by decide) (by decide) g407 rfl rfl rfl rfl (e_mt uh4 t1) ?_
  obtain ⟨h7, eh7, hf⟩ := nn_e hf
  refine e_hp eh7 ?_
  have uh7 : m_t h7 = m_t h := by rw [eh7]; exact uh4
  refine e_aload_n (pc := 22) C dX0_begin_22 0 rfl rfl ?_
  refine e_aload_n (pc := 23) C dX0_begin_23 0 rfl rfl ?_
  refine e_getr (pc := 24) 0 0 C dX0_begin_24 (by decide) (by decide) g393 rfl (e_mt uh7 t1) ?_
  obtain ⟨b8, eb8, hf⟩ := ob_e hf
  refine e_rf eb8 ?_
  obtain ⟨t9, hf⟩ := ck_e hf
  refine e_getiN (pc := 27) 9 2 C dX0_begin_27 (by decide) (by decide) g320 rfl t9 ?_
  obtain ⟨r12, h10, y11, hf⟩ := cb_e hf
  refine e_callSNi (pc := 30) (st := [.ref v0]) C (ct_X11_alwaysKnob y11) dX0_begin_30 g782 g783 g146 g784 hd_X11_alwaysKnob rfl ⟨Nat.le_of_ble_eq_true rfl, Nat.le_of_ble_eq_true rfl⟩ ⟨Nat.le_of_ble_eq_true rfl, Nat.le_of_ble_eq_true rfl⟩ rfl (Nat.le_of_ble_eq_true rfl) ?_
  obtain ⟨t13, hf⟩ := ck_e hf
  refine e_puti (pc := 33) 0 5 C dX0_begin_33 (by decide) (by decide) g416 rfl rfl rfl rfl t13 ?_
  obtain ⟨h14, eh14, hf⟩ := nn_e hf
  refine e_hp eh14 ?_
  have uh14 : m_t h14 = m_t h10 := by rw [eh14]; exact rfl
  refine e_aload_n (pc := 36) C dX0_begin_36 0 rfl rfl ?_
  refine e_getr (pc := 37) 0 6 C dX0_begin_37 (by decide) (by decide) g421 rfl (e_mt uh14 t13) ?_
  obtain ⟨b15, eb15, hf⟩ := ob_e hf
  refine e_rf eb15 ?_
  refine e_iconst (v := (-1 : Int32)) (pc := 40) C dX0_begin_40 (by decide) ?_
  obtain ⟨h16, y17, hf⟩ := ob_e hf
  refine e_callSv (pc := 41) (st := []) C (ct_J7_fill_53178 y17) dX0_begin_41 g788 g789 g162 g790 hd_J7_fill_53178 rfl ⟨Nat.le_of_ble_eq_true rfl, Nat.le_of_ble_eq_true rfl⟩ ⟨Nat.le_of_ble_eq_true rfl, Nat.le_of_ble_eq_true rfl⟩ rfl (Nat.le_of_ble_eq_true rfl) ?_
  refine e_iconst (v := (0 : Int32)) (pc := 44) C dX0_begin_44 (by decide) ?_
  refine e_istore_n (pc := 45) (lv2 := [(1, .int (0 : Int32)), (0, .ref v0)]) C hm dX0_begin_45 rfl (by decide) rfl ?_
  refine e_lv (lv2 := [(0, .ref v0), (1, .int (0 : Int32))]) [1, 0] rfl ?_
  refine el_X0_begin_46 C hm hr hin (fun h_81 hf => ?_) bN (0 : Int32) h16 hf
  refine e_aload_n (pc := 81) C dX0_begin_81 0 rfl rfl ?_
  obtain ⟨t34, hf⟩ := ck_e hf
  obtain ⟨h35, y36, hf⟩ := ob_e hf
  refine e_callVv (pc := 82) (st := []) 0 C (ct_X0_changeRiders y36) dX0_begin_82 (by decide) t34 g791 g793 g14 g151 g794 hd_X0_changeRiders rfl ⟨Nat.le_of_ble_eq_true rfl, Nat.le_of_ble_eq_true rfl⟩ ⟨Nat.le_of_ble_eq_true rfl, Nat.le_of_ble_eq_true rfl⟩ rfl (Nat.le_of_ble_eq_true rfl) ?_
  obtain rfl := so_e hf
  exact e_vret (pc := 85) C hr dX0_begin_85 (Nat.le_of_ble_eq_true rfl) (Nat.le_of_ble_eq_true rfl)
theorem dX6_begin_0 : decode cX6_begin 0 = .ok (.aload_n 0, 1) := by decide +kernel
theorem dX6_begin_1 : decode cX6_begin 1 = .ok (.new 41, 3) := by decide +kernel
theorem dX6_begin_4 : decode cX6_begin 4 = .ok (.dup, 1) := by decide +kernel
theorem dX6_begin_5 : decode cX6_begin 5 = .ok (.aload_n 1, 1) := by decide +kernel
theorem dX6_begin_6 : decode cX6_begin 6 = .ok (.invokespecial 43, 3) := by decide +kernel
theorem dX6_begin_9 : decode cX6_begin 9 = .ok (.putfield 31, 3) := by decide +kernel
theorem dX6_begin_12 : decode cX6_begin 12 = .ok (.aload_n 0, 1) := by decide +kernel
theorem dX6_begin_13 : decode cX6_begin 13 = .ok (.getfield 31, 3) := by decide +kernel
theorem dX6_begin_16 : decode cX6_begin 16 = .ok (.invokevirtual 46, 3) := by decide +kernel
theorem dX6_begin_19 : decode cX6_begin 19 = .ok (.aload_n 0, 1) := by decide +kernel
theorem dX6_begin_20 : decode cX6_begin 20 = .ok (.iconst 0, 1) := by decide +kernel
theorem dX6_begin_21 : decode cX6_begin 21 = .ok (.putfield 9, 3) := by decide +kernel
theorem dX6_begin_24 : decode cX6_begin 24 = .ok (.aload_n 0, 1) := by decide +kernel
theorem dX6_begin_25 : decode cX6_begin 25 = .ok (.iconst 0, 1) := by decide +kernel
theorem dX6_begin_26 : decode cX6_begin 26 = .ok (.putfield 21, 3) := by decide +kernel
theorem dX6_begin_29 : decode cX6_begin 29 = .ok (.return_, 1) := by decide +kernel
noncomputable def f_X6_begin (G : GG) (v0 : Nat) (v1 : Nat) (h : AH) : Option (AH) :=
nn (m_n h) fun x1 =>
nn (m_new h (.inl 0)) fun h2 =>
ob (f_X0_init G x1 v1 h2) fun h3 =>
ck (m_t h3 v0 = .inl 6) <|
nn (m_sr h3 v0 0 (some x1)) fun h6 =>
ob (m_r h6 v0 0) fun b7 =>
ck (m_t h6 b7 = .inl 0) <|
ob (f_X0_begin G b7 h6) fun h9 =>
ck (m_t h9 v0 = .inl 6) <|
nn (m_si h9 v0 1 (0 : Int32)) fun h12 =>
nn (m_si h12 v0 4 (0 : Int32)) fun h13 =>
some h13
set_option maxHeartbeats 4000000 in
set_option maxRecDepth 100000 in
theorem ct_X6_begin {G : GG} {l : Launch} {v0 : Nat} {v1 : Nat} {h : AH} {y : AH} (hf : f_X6_begin G v0 v1 h = some y) : Ct G l yX6_begin cX6_begin 2 none 4 88 5 42 [.ref v0, .ref v1] h (none, y) := by
  refine ct_of (by decide) (Nat.le_of_ble_eq_true rfl) ?_
  intro p e s m args below meth c C hm hr hin
  have C : Cx G cX6_begin RX6 p s m args meth c := C
  refine e_lv (lv2 := [(0, .ref v0), (1, .ref v1)]) [0, 1] rfl ?_
  unfold f_X6_begin at hf
  refine e_aload_n (pc := 0) C dX6_begin_0 0 rfl rfl ?_
  refine e_new (pc := 1) (ci := 0) C dX6_begin_1 (by decide) g776 g258 g151 (Nat.le_of_ble_eq_true rfl) (Nat.le_of_ble_eq_true rfl) ?_
  obtain ⟨x1, ex1, hf⟩ := nn_e hf
  refine e_topr ex1 ?_
  obtain ⟨h2, eh2, hf⟩ := nn_e hf
  refine e_hp eh2 ?_
  have tx1 : m_t h2 x1 = .inl 0 := by rw [eh2, ex1]; simp [m_t, m_new, m_n, va_up]
  refine e_dup (pc := 4) C dX6_begin_4 rfl ?_
  refine e_aload_n (pc := 5) C dX6_begin_5 1 rfl rfl ?_
  obtain ⟨h3, y4, hf⟩ := ob_e hf
  refine e_callIv (pc := 6) (st := [.ref x1, .ref v0]) C (ct_X0_init y4) dX6_begin_6 g777 g390 g151 g391 rfl hd_X0_init rfl ⟨Nat.le_of_ble_eq_true rfl, Nat.le_of_ble_eq_true rfl⟩ ⟨Nat.le_of_ble_eq_true rfl, Nat.le_of_ble_eq_true rfl⟩ rfl (Nat.le_of_ble_eq_true rfl) ?_
  obtain ⟨t5, hf⟩ := ck_e hf
  refine e_putr (pc := 9) (x := some x1) 6 0 C dX6_begin_9 (by decide) (by decide) g457 rfl rfl rfl rfl t5 ?_
  obtain ⟨h6, eh6, hf⟩ := nn_e hf
  refine e_hp eh6 ?_
  have uh6 : m_t h6 = m_t h3 := by rw [eh6]; exact rfl
  refine e_aload_n (pc := 12) C dX6_begin_12 0 rfl rfl ?_
  refine e_getr (pc := 13) 6 0 C dX6_begin_13 (by decide) (by decide) g457 rfl (e_mt uh6 t5) ?_
  obtain ⟨b7, eb7, hf⟩ := ob_e hf
  refine e_rf eb7 ?_
  obtain ⟨t8, hf⟩ := ck_e hf
  obtain ⟨h9, y10, hf⟩ := ob_e hf
  refine e_callVv (pc := 16) (st := []) 0 C (ct_X0_begin y10) dX6_begin_16 (by decide) t8 g778 g779 g780 g151 g781 hd_X0_begin rfl ⟨Nat.le_of_ble_eq_true rfl, Nat.le_of_ble_eq_true rfl⟩ ⟨Nat.le_of_ble_eq_true rfl, Nat.le_of_ble_eq_true rfl⟩ rfl (Nat.le_of_ble_eq_true rfl) ?_
  refine e_aload_n (pc := 19) C dX6_begin_19 0 rfl rfl ?_
  refine e_iconst (v := (0 : Int32)) (pc := 20) C dX6_begin_20 (by decide) ?_
  obtain ⟨t11, hf⟩ := ck_e hf
  refine e_puti (pc := 21) 6 1 C dX6_begin_21 (by decide) (by decide) g460 rfl rfl rfl rfl t11 ?_
  obtain ⟨h12, eh12, hf⟩ := nn_e hf
  refine e_hp eh12 ?_
  have uh12 : m_t h12 = m_t h9 := by rw [eh12]; exact rfl
  refine e_aload_n (pc := 24) C dX6_begin_24 0 rfl rfl ?_
  refine e_iconst (v := (0 : Int32)) (pc := 25) C dX6_begin_25 (by decide) ?_
  refine e_puti (pc := 26) 6 4 C dX6_begin_26 (by decide) (by decide) g466 rfl rfl rfl rfl (e_mt uh12 t11) ?_
  obtain ⟨h13, eh13, hf⟩ := nn_e hf
  refine e_hp eh13 ?_
  have uh13 : m_t h13 = m_t h9 := by rw [eh13]; exact uh12
  obtain rfl := so_e hf
  exact e_vret (pc := 29) C hr dX6_begin_29 (Nat.le_of_ble_eq_true rfl) (Nat.le_of_ble_eq_true rfl)
theorem dX11_train_0 : decode cX11_train 0 = .ok (.aload_n 0, 1) := by decide +kernel
theorem dX11_train_1 : decode cX11_train 1 = .ok (.getfield 21, 3) := by decide +kernel
theorem dX11_train_4 : decode cX11_train 4 = .ok (.invokevirtual 109, 3) := by decide +kernel
theorem dX11_train_7 : decode cX11_train 7 = .ok (.astore_n 1, 1) := by decide +kernel
theorem dX11_train_8 : decode cX11_train 8 = .ok (.aload_n 0, 1) := by decide +kernel
theorem dX11_train_9 : decode cX11_train 9 = .ok (.getfield 10, 3) := by decide +kernel
theorem dX11_train_12 : decode cX11_train 12 = .ok (.iconst 0, 1) := by decide +kernel
theorem dX11_train_13 : decode cX11_train 13 = .ok (.putfield 102, 3) := by decide +kernel
theorem dX11_train_16 : decode cX11_train 16 = .ok (.aload_n 1, 1) := by decide +kernel
theorem dX11_train_17 : decode cX11_train 17 = .ok (.ifnonnull 14, 3) := by decide +kernel
theorem dX11_train_20 : decode cX11_train 20 = .ok (.bipush (-2), 2) := by decide +kernel
theorem dX11_train_22 : decode cX11_train 22 = .ok (.aload_n 0, 1) := by decide +kernel
theorem dX11_train_23 : decode cX11_train 23 = .ok (.getfield 10, 3) := by decide +kernel
theorem dX11_train_26 : decode cX11_train 26 = .ok (.getfield 113, 3) := by decide +kernel
theorem dX11_train_29 : decode cX11_train 29 = .ok (.isub, 1) := by decide +kernel
theorem dX11_train_30 : decode cX11_train 30 = .ok (.ireturn, 1) := by decide +kernel
theorem dX11_train_31 : decode cX11_train 31 = .ok (.aload_n 0, 1) := by decide +kernel
theorem dX11_train_32 : decode cX11_train 32 = .ok (.getfield 55, 3) := by decide +kernel
theorem dX11_train_35 : decode cX11_train 35 = .ok (.aload_n 1, 1) := by decide +kernel
theorem dX11_train_36 : decode cX11_train 36 = .ok (.invokevirtual 116, 3) := by decide +kernel
theorem dX11_train_39 : decode cX11_train 39 = .ok (.aload_n 1, 1) := by decide +kernel
theorem dX11_train_40 : decode cX11_train 40 = .ok (.getfield 119, 3) := by decide +kernel
theorem dX11_train_43 : decode cX11_train 43 = .ok (.ireturn, 1) := by decide +kernel
noncomputable def f_X11_train (G : GG) (v0 : Nat) (h : AH) : Option (Int32 × AH) :=
ck (m_t h v0 = .inl 11) <|
ob (m_r h v0 1) fun b2 =>
ck (m_t h b2 = .inl 10) <|
cb (f_X10_readTrain G b2 h) fun r6 h4 =>
ck (m_t h4 v0 = .inl 11) <|
ob (m_r h4 v0 0) fun b8 =>
ck (m_t h4 b8 = .inl 8) <|
nn (m_si h4 b8 1 (0 : Int32)) fun h10 =>
on (r6) (ob (m_r h10 v0 0) fun b13 =>
ck (m_t h10 b13 = .inl 8) <|
some ((-2 : Int32) - (m_i h10 b13 9), h10)) fun b11 =>
ob (m_r h10 v0 5) fun b15 =>
ck (m_t h10 b15 = .inl 6) <|
ob (f_X6_begin G b15 b11 h10) fun h17 =>
ck (m_t h17 b11 = .inl 9) <|
some (m_i h17 b11 5, h17)
set_option maxHeartbeats 4000000 in
set_option maxRecDepth 100000 in
theorem ct_X11_train {G : GG} {l : Launch} {v0 : Nat} {h : AH} {y : Int32 × AH} (hf : f_X11_train G v0 h = some y) : Ct G l yX11_train cX11_train 2 (some .int) 9 203 20 145 [.ref v0] h (some (.int y.1), y.2) := by
  refine ct_of (by decide) (Nat.le_of_ble_eq_true rfl) ?_
  intro p e s m args below meth c C hm hr hin
  have C : Cx G cX11_train RX11 p s m args meth c := C
  refine e_lv (lv2 := [(0, .ref v0)]) [0] rfl ?_
  unfold f_X11_train at hf
  refine e_aload_n (pc := 0) C dX11_train_0 0 rfl rfl ?_
  obtain ⟨t1, hf⟩ := ck_e hf
  refine e_getr (pc := 1) 11 1 C dX11_train_1 (by decide) (by decide) g574 rfl t1 ?_
  obtain ⟨b2, eb2, hf⟩ := ob_e hf
  refine e_rf eb2 ?_
  obtain ⟨t3, hf⟩ := ck_e hf
  obtain ⟨r6, h4, y5, hf⟩ := cb_e hf
  refine e_callVi (pc := 4) (st := []) 10 C (ct_X10_readTrain y5) dX11_train_4 (by decide) t3 g629 g630 g631 g148 g632 hd_X10_readTrain rfl ⟨Nat.le_of_ble_eq_true rfl, Nat.le_of_ble_eq_true rfl⟩ ⟨Nat.le_of_ble_eq_true rfl, Nat.le_of_ble_eq_true rfl⟩ rfl (Nat.le_of_ble_eq_true rfl) ?_
  refine e_astoreo_n (pc := 7) (lv2 := [(1, va_rf r6), (0, .ref v0)]) C hm dX11_train_7 rfl (by decide) rfl ?_
  refine e_aload_n (pc := 8) C dX11_train_8 1 rfl rfl ?_
  obtain ⟨t7, hf⟩ := ck_e hf
  refine e_getr (pc := 9) 11 0 C dX11_train_9 (by decide) (by decide) g573 rfl t7 ?_
  obtain ⟨b8, eb8, hf⟩ := ob_e hf
  refine e_rf eb8 ?_
  refine e_iconst (v := (0 : Int32)) (pc := 12) C dX11_train_12 (by decide) ?_
  obtain ⟨t9, hf⟩ := ck_e hf
  refine e_putiN (pc := 13) 8 1 C dX11_train_13 (by decide) (by decide) g183 rfl rfl rfl rfl t9 ?_
  obtain ⟨h10, eh10, hf⟩ := nn_e hf
  refine e_hp eh10 ?_
  have uh10 : m_t h10 = m_t h4 := by rw [eh10]; exact rfl
  refine e_aloado_n (pc := 16) C dX11_train_16 0 rfl rfl ?_
  rcases on_e hf with ⟨c12, hf⟩ | ⟨b11, c12, hf⟩
  · refine e_nonnullN (pc := 17) c12 C dX11_train_17 ?_
    refine e_bipush (v := (-2 : Int32)) (pc := 20) C dX11_train_20 (by decide) ?_
    refine e_aload_n (pc := 22) C dX11_train_22 1 rfl rfl ?_
    refine e_getr (pc := 23) 11 0 C dX11_train_23 (by decide) (by decide) g573 rfl (e_mt uh10 t7) ?_
    obtain ⟨b13, eb13, hf⟩ := ob_e hf
    refine e_rf eb13 ?_
    obtain ⟨t14, hf⟩ := ck_e hf
    refine e_getiN (pc := 26) 8 9 C dX11_train_26 (by decide) (by decide) g197 rfl t14 ?_
    refine e_isub (pc := 29) C dX11_train_29 ?_
    obtain rfl := so_e hf
    exact e_iret (pc := 30) C hr dX11_train_30 (Nat.le_of_ble_eq_true rfl) (Nat.le_of_ble_eq_true rfl)
  · refine e_nonnullS (pc := 17) (tgt := 31) c12 C dX11_train_17 (by decide) ?_
    refine e_lv (lv2 := [(1, .ref b11), (0, .ref v0)]) [0, 1] (by rw [c12]; rfl) ?_
    refine e_aload_n (pc := 31) C dX11_train_31 1 rfl rfl ?_
    refine e_getr (pc := 32) 11 5 C dX11_train_32 (by decide) (by decide) g578 rfl (e_mt uh10 t7) ?_
    obtain ⟨b15, eb15, hf⟩ := ob_e hf
    refine e_rf eb15 ?_
    refine e_aload_n (pc := 35) C dX11_train_35 0 rfl rfl ?_
    obtain ⟨t16, hf⟩ := ck_e hf
    obtain ⟨h17, y18, hf⟩ := ob_e hf
    refine e_callVv (pc := 36) (st := []) 6 C (ct_X6_begin y18) dX11_train_36 (by decide) t16 g772 g773 g774 g150 g775 hd_X6_begin rfl ⟨Nat.le_of_ble_eq_true rfl, Nat.le_of_ble_eq_true rfl⟩ ⟨Nat.le_of_ble_eq_true rfl, Nat.le_of_ble_eq_true rfl⟩ rfl (Nat.le_of_ble_eq_true rfl) ?_
    refine e_aload_n (pc := 39) C dX11_train_39 0 rfl rfl ?_
    obtain ⟨t19, hf⟩ := ck_e hf
    refine e_getiN (pc := 40) 9 5 C dX11_train_40 (by decide) (by decide) g337 rfl t19 ?_
    obtain rfl := so_e hf
    exact e_iret (pc := 43) C hr dX11_train_43 (Nat.le_of_ble_eq_true rfl) (Nat.le_of_ble_eq_true rfl)
theorem dX2_init_0 : decode cX2_init 0 = .ok (.aload_n 0, 1) := by decide +kernel
theorem dX2_init_1 : decode cX2_init 1 = .ok (.invokespecial 3, 3) := by decide +kernel
theorem dX2_init_4 : decode cX2_init 4 = .ok (.aload_n 0, 1) := by decide +kernel
theorem dX2_init_5 : decode cX2_init 5 = .ok (.bipush 64, 2) := by decide +kernel
theorem dX2_init_7 : decode cX2_init 7 = .ok (.newarray .long, 2) := by decide +kernel
theorem dX2_init_9 : decode cX2_init 9 = .ok (.putfield 11, 3) := by decide +kernel
theorem dX2_init_12 : decode cX2_init 12 = .ok (.aload_n 0, 1) := by decide +kernel
theorem dX2_init_13 : decode cX2_init 13 = .ok (.iconst 0, 1) := by decide +kernel
theorem dX2_init_14 : decode cX2_init 14 = .ok (.putfield 15, 3) := by decide +kernel
theorem dX2_init_17 : decode cX2_init 17 = .ok (.aload_n 0, 1) := by decide +kernel
theorem dX2_init_18 : decode cX2_init 18 = .ok (.bipush 6, 2) := by decide +kernel
theorem dX2_init_20 : decode cX2_init 20 = .ok (.newarray .int, 2) := by decide +kernel
theorem dX2_init_22 : decode cX2_init 22 = .ok (.putfield 19, 3) := by decide +kernel
theorem dX2_init_25 : decode cX2_init 25 = .ok (.aload_n 0, 1) := by decide +kernel
theorem dX2_init_26 : decode cX2_init 26 = .ok (.iconst 0, 1) := by decide +kernel
theorem dX2_init_27 : decode cX2_init 27 = .ok (.putfield 23, 3) := by decide +kernel
theorem dX2_init_30 : decode cX2_init 30 = .ok (.aload_n 0, 1) := by decide +kernel
theorem dX2_init_31 : decode cX2_init 31 = .ok (.iconst (-1), 1) := by decide +kernel
theorem dX2_init_32 : decode cX2_init 32 = .ok (.putfield 26, 3) := by decide +kernel
theorem dX2_init_35 : decode cX2_init 35 = .ok (.aload_n 0, 1) := by decide +kernel
theorem dX2_init_36 : decode cX2_init 36 = .ok (.iconst 0, 1) := by decide +kernel
theorem dX2_init_37 : decode cX2_init 37 = .ok (.putfield 29, 3) := by decide +kernel
theorem dX2_init_40 : decode cX2_init 40 = .ok (.aload_n 0, 1) := by decide +kernel
theorem dX2_init_41 : decode cX2_init 41 = .ok (.aload_n 1, 1) := by decide +kernel
theorem dX2_init_42 : decode cX2_init 42 = .ok (.putfield 32, 3) := by decide +kernel
theorem dX2_init_45 : decode cX2_init 45 = .ok (.return_, 1) := by decide +kernel
noncomputable def f_X2_init (G : GG) (v0 : Nat) (v1 : Nat) (h : AH) : Option (AH) :=
nn (m_n h) fun x1 =>
nn (m_new h (.inr (.long, 64))) fun h2 =>
ck (m_t h2 v0 = .inl 2) <|
nn (m_sr h2 v0 1 (some x1)) fun h4 =>
nn (m_si h4 v0 2 (0 : Int32)) fun h5 =>
nn (m_n h5) fun x6 =>
nn (m_new h5 (.inr (.int, 6))) fun h7 =>
ck (m_t h7 v0 = .inl 2) <|
nn (m_sr h7 v0 3 (some x6)) fun h9 =>
nn (m_si h9 v0 4 (0 : Int32)) fun h10 =>
nn (m_si h10 v0 5 (-1 : Int32)) fun h11 =>
nn (m_si h11 v0 6 (0 : Int32)) fun h12 =>
nn (m_sr h12 v0 0 (some v1)) fun h13 =>
some h13
set_option maxHeartbeats 4000000 in
set_option maxRecDepth 100000 in
theorem ct_X2_init {G : GG} {l : Launch} {v0 : Nat} {v1 : Nat} {h : AH} {y : AH} (hf : f_X2_init G v0 v1 h = some y) : Ct G l yX2_init cX2_init 2 none 1 24 2 70 [.ref v0, .ref v1] h (none, y) := by
  refine ct_of (by decide) (Nat.le_of_ble_eq_true rfl) ?_
  intro p e s m args below meth c C hm hr hin
  have C : Cx G cX2_init RX2 p s m args meth c := C
  refine e_lv (lv2 := [(0, .ref v0), (1, .ref v1)]) [0, 1] rfl ?_
  unfold f_X2_init at hf
  refine e_aload_n (pc := 0) C dX2_init_0 0 rfl rfl ?_
  refine e_objInit (pc := 1) C dX2_init_1 g871 g173 g174 (Nat.le_of_ble_eq_true rfl) (Nat.le_of_ble_eq_true rfl) ?_
  refine e_aload_n (pc := 4) C dX2_init_4 0 rfl rfl ?_
  refine e_bipush (v := (64 : Int32)) (pc := 5) C dX2_init_5 (by decide) ?_
  refine e_newl (pc := 7) C dX2_init_7 g894 (by decide) (N := 64) (by decide) (by decide) (Nat.le_of_ble_eq_true rfl) (Nat.le_of_ble_eq_true rfl) ?_
  obtain ⟨x1, ex1, hf⟩ := nn_e hf
  refine e_topr ex1 ?_
  obtain ⟨h2, eh2, hf⟩ := nn_e hf
  refine e_hp eh2 ?_
  obtain ⟨t3, hf⟩ := ck_e hf
  refine e_putrF (pc := 9) (x := some x1) 2 1 C hin dX2_init_9 (by decide) (by decide) g873 rfl rfl rfl rfl rfl t3 ?_
  obtain ⟨h4, eh4, hf⟩ := nn_e hf
  refine e_hp eh4 ?_
  have uh4 : m_t h4 = m_t h2 := by rw [eh4]; exact rfl
  refine e_aload_n (pc := 12) C dX2_init_12 0 rfl rfl ?_
  refine e_iconst (v := (0 : Int32)) (pc := 13) C dX2_init_13 (by decide) ?_
  refine e_puti (pc := 14) 2 2 C dX2_init_14 (by decide) (by decide) g874 rfl rfl rfl rfl (e_mt uh4 t3) ?_
  obtain ⟨h5, eh5, hf⟩ := nn_e hf
  refine e_hp eh5 ?_
  have uh5 : m_t h5 = m_t h2 := by rw [eh5]; exact uh4
  refine e_aload_n (pc := 17) C dX2_init_17 0 rfl rfl ?_
  refine e_bipush (v := (6 : Int32)) (pc := 18) C dX2_init_18 (by decide) ?_
  refine e_newi (pc := 20) C dX2_init_20 g220 (by decide) (N := 6) (by decide) (by decide) (Nat.le_of_ble_eq_true rfl) (Nat.le_of_ble_eq_true rfl) ?_
  obtain ⟨x6, ex6, hf⟩ := nn_e hf
  refine e_topr ex6 ?_
  obtain ⟨h7, eh7, hf⟩ := nn_e hf
  refine e_hp eh7 ?_
  obtain ⟨t8, hf⟩ := ck_e hf
  refine e_putrF (pc := 22) (x := some x6) 2 3 C hin dX2_init_22 (by decide) (by decide) g875 rfl rfl rfl rfl rfl t8 ?_
  obtain ⟨h9, eh9, hf⟩ := nn_e hf
  refine e_hp eh9 ?_
  have uh9 : m_t h9 = m_t h7 := by rw [eh9]; exact rfl
  refine e_aload_n (pc := 25) C dX2_init_25 0 rfl rfl ?_
  refine e_iconst (v := (0 : Int32)) (pc := 26) C dX2_init_26 (by decide) ?_
  refine e_puti (pc := 27) 2 4 C dX2_init_27 (by decide) (by decide) g876 rfl rfl rfl rfl (e_mt uh9 t8) ?_
  obtain ⟨h10, eh10, hf⟩ := nn_e hf
  refine e_hp eh10 ?_
  have uh10 : m_t h10 = m_t h7 := by rw [eh10]; exact uh9
  refine e_aload_n (pc := 30) C dX2_init_30 0 rfl rfl ?_
  refine e_iconst (v := (-1 : Int32)) (pc := 31) C dX2_init_31 (by decide) ?_
  refine e_puti (pc := 32) 2 5 C dX2_init_32 (by decide) (by decide) g877 rfl rfl rfl rfl (e_mt uh10 t8) ?_
  obtain ⟨h11, eh11, hf⟩ := nn_e hf
  refine e_hp eh11 ?_
  have uh11 : m_t h11 = m_t h7 := by rw [eh11]; exact uh10
  refine e_aload_n (pc := 35) C dX2_init_35 0 rfl rfl ?_
  refine e_iconst (v := (0 : Int32)) (pc := 36) C dX2_init_36 (by decide) ?_
  refine e_puti (pc := 37) 2 6 C dX2_init_37 (by decide) (by decide) g878 rfl rfl rfl rfl (e_mt uh11 t8) ?_
  obtain ⟨h12, eh12, hf⟩ := nn_e hf
  refine e_hp eh12 ?_
  have uh12 : m_t h12 = m_t h7 := by rw [eh12]; exact uh11
  refine e_aload_n (pc := 40) C dX2_init_40 0 rfl rfl ?_
  refine e_aload_n (pc := 41) C dX2_init_41 1 rfl rfl ?_
  refine e_putrF (pc := 42) (x := some v1) 2 0 C hin dX2_init_42 (by decide) (by decide) g872 rfl rfl rfl rfl rfl (e_mt uh12 t8) ?_
  obtain ⟨h13, eh13, hf⟩ := nn_e hf
  refine e_hp eh13 ?_
  have uh13 : m_t h13 = m_t h7 := by rw [eh13]; exact uh12
  obtain rfl := so_e hf
  exact e_vret (pc := 45) C hr dX2_init_45 (Nat.le_of_ble_eq_true rfl) (Nat.le_of_ble_eq_true rfl)
theorem dX3_readLaw_0 : decode cX3_readLaw 0 = .ok (.aload_n 0, 1) := by decide +kernel
theorem dX3_readLaw_1 : decode cX3_readLaw 1 = .ok (.iconst 0, 1) := by decide +kernel
theorem dX3_readLaw_2 : decode cX3_readLaw 2 = .ok (.putfield 15, 3) := by decide +kernel
theorem dX3_readLaw_5 : decode cX3_readLaw 5 = .ok (.aload_n 0, 1) := by decide +kernel
theorem dX3_readLaw_6 : decode cX3_readLaw 6 = .ok (.iconst 0, 1) := by decide +kernel
theorem dX3_readLaw_7 : decode cX3_readLaw 7 = .ok (.putfield 19, 3) := by decide +kernel
theorem dX3_readLaw_10 : decode cX3_readLaw 10 = .ok (.aload_n 0, 1) := by decide +kernel
theorem dX3_readLaw_11 : decode cX3_readLaw 11 = .ok (.getfield 22, 3) := by decide +kernel
theorem dX3_readLaw_14 : decode cX3_readLaw 14 = .ok (.ldc 26, 2) := by decide +kernel
theorem dX3_readLaw_16 : decode cX3_readLaw 16 = .ok (.invokevirtual 28, 3) := by decide +kernel
theorem dX3_readLaw_19 : decode cX3_readLaw 19 = .ok (.iconst 1, 1) := by decide +kernel
theorem dX3_readLaw_20 : decode cX3_readLaw 20 = .ok (.istore_n 1, 1) := by decide +kernel
theorem dX3_readLaw_21 : decode cX3_readLaw 21 = .ok (.iconst 0, 1) := by decide +kernel
theorem dX3_readLaw_22 : decode cX3_readLaw 22 = .ok (.istore_n 2, 1) := by decide +kernel
theorem dX3_readLaw_23 : decode cX3_readLaw 23 = .ok (.iload_n 2, 1) := by decide +kernel
theorem dX3_readLaw_24 : decode cX3_readLaw 24 = .ok (.bipush 12, 2) := by decide +kernel
theorem dX3_readLaw_26 : decode cX3_readLaw 26 = .ok (.if_icmp .gt 126, 3) := by decide +kernel
theorem dX3_readLaw_29 : decode cX3_readLaw 29 = .ok (.iload_n 1, 1) := by decide +kernel
theorem dX3_readLaw_30 : decode cX3_readLaw 30 = .ok (.ifCond .eq 122, 3) := by decide +kernel
theorem dX3_readLaw_33 : decode cX3_readLaw 33 = .ok (.aload_n 0, 1) := by decide +kernel
theorem dX3_readLaw_34 : decode cX3_readLaw 34 = .ok (.getfield 22, 3) := by decide +kernel
theorem dX3_readLaw_37 : decode cX3_readLaw 37 = .ok (.getfield 34, 3) := by decide +kernel
theorem dX3_readLaw_40 : decode cX3_readLaw 40 = .ok (.ifCond .ne 112, 3) := by decide +kernel
theorem dX3_readLaw_43 : decode cX3_readLaw 43 = .ok (.aload_n 0, 1) := by decide +kernel
theorem dX3_readLaw_44 : decode cX3_readLaw 44 = .ok (.iload_n 2, 1) := by decide +kernel
theorem dX3_readLaw_45 : decode cX3_readLaw 45 = .ok (.invokevirtual 37, 3) := by decide +kernel
theorem dX3_readLaw_48 : decode cX3_readLaw 48 = .ok (.aload_n 0, 1) := by decide +kernel
theorem dX3_readLaw_49 : decode cX3_readLaw 49 = .ok (.invokevirtual 41, 3) := by decide +kernel
theorem dX3_readLaw_52 : decode cX3_readLaw 52 = .ok (.aload_n 0, 1) := by decide +kernel
theorem dX3_readLaw_53 : decode cX3_readLaw 53 = .ok (.getfield 22, 3) := by decide +kernel
theorem dX3_readLaw_56 : decode cX3_readLaw 56 = .ok (.getfield 34, 3) := by decide +kernel
theorem dX3_readLaw_59 : decode cX3_readLaw 59 = .ok (.ifCond .ne 20, 3) := by decide +kernel
theorem dX3_readLaw_62 : decode cX3_readLaw 62 = .ok (.aload_n 0, 1) := by decide +kernel
theorem dX3_readLaw_63 : decode cX3_readLaw 63 = .ok (.getfield 22, 3) := by decide +kernel
theorem dX3_readLaw_66 : decode cX3_readLaw 66 = .ok (.getfield 44, 3) := by decide +kernel
theorem dX3_readLaw_69 : decode cX3_readLaw 69 = .ok (.sipush 314, 3) := by decide +kernel
theorem dX3_readLaw_72 : decode cX3_readLaw 72 = .ok (.if_icmp .ne 7, 3) := by decide +kernel
theorem dX3_readLaw_75 : decode cX3_readLaw 75 = .ok (.iconst 1, 1) := by decide +kernel
theorem dX3_readLaw_76 : decode cX3_readLaw 76 = .ok (.goto 4, 3) := by decide +kernel
theorem dX3_readLaw_79 : decode cX3_readLaw 79 = .ok (.iconst 0, 1) := by decide +kernel
theorem dX3_readLaw_80 : decode cX3_readLaw 80 = .ok (.istore_n 3, 1) := by decide +kernel
theorem dX3_readLaw_81 : decode cX3_readLaw 81 = .ok (.iload_n 3, 1) := by decide +kernel
theorem dX3_readLaw_82 : decode cX3_readLaw 82 = .ok (.ifCond .eq 15, 3) := by decide +kernel
theorem dX3_readLaw_85 : decode cX3_readLaw 85 = .ok (.aload_n 0, 1) := by decide +kernel
theorem dX3_readLaw_86 : decode cX3_readLaw 86 = .ok (.getfield 22, 3) := by decide +kernel
theorem dX3_readLaw_89 : decode cX3_readLaw 89 = .ok (.invokevirtual 47, 3) := by decide +kernel
theorem dX3_readLaw_92 : decode cX3_readLaw 92 = .ok (.aload_n 0, 1) := by decide +kernel
theorem dX3_readLaw_93 : decode cX3_readLaw 93 = .ok (.iconst 0, 1) := by decide +kernel
theorem dX3_readLaw_94 : decode cX3_readLaw 94 = .ok (.invokevirtual 50, 3) := by decide +kernel
theorem dX3_readLaw_97 : decode cX3_readLaw 97 = .ok (.aload_n 0, 1) := by decide +kernel
theorem dX3_readLaw_98 : decode cX3_readLaw 98 = .ok (.iload_n 3, 1) := by decide +kernel
theorem dX3_readLaw_99 : decode cX3_readLaw 99 = .ok (.ifCond .eq 9, 3) := by decide +kernel
theorem dX3_readLaw_102 : decode cX3_readLaw 102 = .ok (.sipush (-314), 3) := by decide +kernel
theorem dX3_readLaw_105 : decode cX3_readLaw 105 = .ok (.goto 6, 3) := by decide +kernel
theorem dX3_readLaw_108 : decode cX3_readLaw 108 = .ok (.sipush (-313), 3) := by decide +kernel
theorem dX3_readLaw_111 : decode cX3_readLaw 111 = .ok (.invokevirtual 53, 3) := by decide +kernel
theorem dX3_readLaw_114 : decode cX3_readLaw 114 = .ok (.aload_n 0, 1) := by decide +kernel
theorem dX3_readLaw_115 : decode cX3_readLaw 115 = .ok (.getfield 22, 3) := by decide +kernel
theorem dX3_readLaw_118 : decode cX3_readLaw 118 = .ok (.getfield 44, 3) := by decide +kernel
theorem dX3_readLaw_121 : decode cX3_readLaw 121 = .ok (.sipush 257, 3) := by decide +kernel
theorem dX3_readLaw_124 : decode cX3_readLaw 124 = .ok (.if_icmp .eq 7, 3) := by decide +kernel
theorem dX3_readLaw_127 : decode cX3_readLaw 127 = .ok (.iconst 1, 1) := by decide +kernel
theorem dX3_readLaw_128 : decode cX3_readLaw 128 = .ok (.goto 4, 3) := by decide +kernel
theorem dX3_readLaw_131 : decode cX3_readLaw 131 = .ok (.iconst 0, 1) := by decide +kernel
theorem dX3_readLaw_132 : decode cX3_readLaw 132 = .ok (.istore_n 1, 1) := by decide +kernel
theorem dX3_readLaw_133 : decode cX3_readLaw 133 = .ok (.iload_n 1, 1) := by decide +kernel
theorem dX3_readLaw_134 : decode cX3_readLaw 134 = .ok (.ifCond .eq 12, 3) := by decide +kernel
theorem dX3_readLaw_137 : decode cX3_readLaw 137 = .ok (.aload_n 0, 1) := by decide +kernel
theorem dX3_readLaw_138 : decode cX3_readLaw 138 = .ok (.getfield 22, 3) := by decide +kernel
theorem dX3_readLaw_141 : decode cX3_readLaw 141 = .ok (.bipush 59, 2) := by decide +kernel
theorem dX3_readLaw_143 : decode cX3_readLaw 143 = .ok (.invokevirtual 56, 3) := by decide +kernel
theorem dX3_readLaw_146 : decode cX3_readLaw 146 = .ok (.iinc 2 1, 3) := by decide +kernel
theorem dX3_readLaw_149 : decode cX3_readLaw 149 = .ok (.goto (-126), 3) := by decide +kernel
theorem dX3_readLaw_152 : decode cX3_readLaw 152 = .ok (.aload_n 0, 1) := by decide +kernel
theorem dX3_readLaw_153 : decode cX3_readLaw 153 = .ok (.getfield 22, 3) := by decide +kernel
theorem dX3_readLaw_156 : decode cX3_readLaw 156 = .ok (.getfield 34, 3) := by decide +kernel
theorem dX3_readLaw_159 : decode cX3_readLaw 159 = .ok (.ifCond .ne 24, 3) := by decide +kernel
theorem dX3_readLaw_162 : decode cX3_readLaw 162 = .ok (.new 59, 3) := by decide +kernel
theorem dX3_readLaw_165 : decode cX3_readLaw 165 = .ok (.dup, 1) := by decide +kernel
theorem dX3_readLaw_166 : decode cX3_readLaw 166 = .ok (.aload_n 0, 1) := by decide +kernel
theorem dX3_readLaw_167 : decode cX3_readLaw 167 = .ok (.getfield 9, 3) := by decide +kernel
theorem dX3_readLaw_170 : decode cX3_readLaw 170 = .ok (.aload_n 0, 1) := by decide +kernel
theorem dX3_readLaw_171 : decode cX3_readLaw 171 = .ok (.getfield 15, 3) := by decide +kernel
theorem dX3_readLaw_174 : decode cX3_readLaw 174 = .ok (.invokestatic 61, 3) := by decide +kernel
theorem dX3_readLaw_177 : decode cX3_readLaw 177 = .ok (.invokespecial 67, 3) := by decide +kernel
theorem dX3_readLaw_180 : decode cX3_readLaw 180 = .ok (.goto 4, 3) := by decide +kernel
theorem dX3_readLaw_183 : decode cX3_readLaw 183 = .ok (.aconst_null, 1) := by decide +kernel
theorem dX3_readLaw_184 : decode cX3_readLaw 184 = .ok (.areturn, 1) := by decide +kernel
noncomputable def F_X3_readLaw_23 (G : GG) (v0 : Nat) (K_152 : AH → Option (Option Nat × AH)) (self_23 : Int32 → Int32 → AH → Option (Option Nat × AH)) (v1 : Int32) (v2 : Int32) (h : AH) : Option (Option Nat × AH) :=
if (12 : Int32) < v2 then (K_152 h) else
if v1 = 0 then (K_152 h) else
ck (m_t h v0 = .inl 3) <|
ob (m_r h v0 0) fun b11 =>
ck (m_t h b11 = .inl 8) <|
if (m_i h b11 9) = 0 then (ob (lrv 6 v0 (s_X3_takePull G v2) h) fun h14 =>
ck (m_t h14 v0 = .inl 3) <|
ob (lrv 6 v0 (s_X3_readSum G) h14) fun h17 =>
ck (m_t h17 v0 = .inl 3) <|
ob (m_r h17 v0 0) fun b20 =>
ck (m_t h17 b20 = .inl 8) <|
nn (fun (s0_80 : Int32) => (nn (fun (h_97 : AH) => (nn (fun (s0_111 : Int32) => (ck (m_t h_97 v0 = .inl 3) <|
ob (lrv 6 v0 (s_X3_write G s0_111) h_97) fun h23 =>
ck (m_t h23 v0 = .inl 3) <|
ob (m_r h23 v0 0) fun b26 =>
ck (m_t h23 b26 = .inl 8) <|
nn (fun (s0_132 : Int32) => (nn (fun (h_146 : AH) => (nn (v2 + (1 : Int32)) fun x28 =>
self_23 s0_132 x28 h_146)) fun j_146 =>
if s0_132 = 0 then (j_146 h23) else
ob (m_r h23 v0 0) fun b30 =>
ck (m_t h23 b30 = .inl 8) <|
ob (lrv 0 b30 (s_X8_takeByte G (59 : Int32)) h23) fun h32 =>
j_146 h32)) fun j_132 =>
if (m_i h23 b26 7) = (257 : Int32) then (j_132 (0 : Int32)) else
j_132 (1 : Int32))) fun j_111 =>
if s0_80 = 0 then (j_111 (-313 : Int32)) else
j_111 (-314 : Int32))) fun j_97 =>
if s0_80 = 0 then (j_97 h17) else
ob (m_r h17 v0 0) fun b37 =>
ck (m_t h17 b37 = .inl 8) <|
ob (lrv 0 b37 (s_X8_advance G) h17) fun h39 =>
ck (m_t h39 v0 = .inl 3) <|
ob (lrv 6 v0 (s_X3_readTest G (s_X3_readFact G 12) (0 : Int32)) h39) fun h42 =>
j_97 h42)) fun j_80 =>
nn (fun (uu_79 : Unit) => (j_80 (0 : Int32))) fun j_79 =>
if (m_i h17 b20 9) = 0 then (ob (m_r h17 v0 0) fun b45 =>
ck (m_t h17 b45 = .inl 8) <|
if (m_i h17 b45 7) = (314 : Int32) then (j_80 (1 : Int32)) else
j_79 ()) else
j_79 ()) else
K_152 h
noncomputable def f_X3_readLaw (G : GG) (v0 : Nat) (h : AH) : Option (Option Nat × AH) :=
ck (m_t h v0 = .inl 3) <|
nn (m_si h v0 2 (0 : Int32)) fun h2 =>
nn (m_si h2 v0 3 (0 : Int32)) fun h3 =>
ob (m_r h3 v0 0) fun b4 =>
ck (m_t h3 b4 = .inl 8) <|
ob (lrv 0 b4 (s_X8_open G ((G.2.2.2.1 1))) h3) fun h6 =>
lq2 (F_X3_readLaw_23 G v0 (fun (h_152 : AH) => (ck (m_t h_152 v0 = .inl 3) <|
ob (m_r h_152 v0 0) fun b49 =>
ck (m_t h_152 b49 = .inl 8) <|
if (m_i h_152 b49 9) = 0 then (nn (m_n h_152) fun x52 =>
nn (m_new h_152 (.inl 2)) fun h53 =>
ck (m_t h53 v0 = .inl 3) <|
ob (m_r h53 v0 1) fun b55 =>
cb (f_J7_copyOf_59c91 G b55 (m_i h53 v0 2) h53) fun r58 h56 =>
ob (f_X2_init G x52 r58 h56) fun h59 =>
some (some x52, h59)) else
some (none, h_152)))) bN (1 : Int32) (0 : Int32) h6
set_option maxHeartbeats 4000000 in
set_option maxRecDepth 100000 in
theorem el_X3_readLaw_23 {G : GG} {p : Program} {l : Launch} {e : Env} {s : State} {m : MethodId} {args : Array Value} {below : List Frame} {meth : Method} {c : Code} {y : Option Nat × AH} (C : Cx G cX3_readLaw RX3 p s m args meth c) (hm : c.maxLocals = 4) (hr : meth.sig.returnType = (some (.object "StrapWindow$Law"))) (hin : meth.name = yX3_readLaw.name) {v0 : Nat} {K_152 : AH → Option (Option Nat × AH)} (hK_152 : ∀ (h : AH), K_152 h = some y → EE G p l e ({ frames := 30, cells := 4, slots := 477, locals := 1362 } : Room) s m args below meth c (some (va_rf y.1), y.2) 4 477 152 [(0, .ref v0)] [] h 0 0) :
    ∀ (n : Nat) (v1 : Int32) (v2 : Int32) (h : AH), lq2 (F_X3_readLaw_23 G v0 K_152) n v1 v2 h = some y → EE G p l e ({ frames := 30, cells := 4, slots := 477, locals := 1362 } : Room) s m args below meth c (some (va_rf y.1), y.2) 4 477 23 [(0, .ref v0), (1, .int v1), (2, .int v2)] [] h 0 0 := by
  intro n
  induction n with
  | zero => intro v1 v2 h hf; exact (no_e hf).elim
  | succ n ih_23 =>
    intro v1 v2 h hf
    have hf : F_X3_readLaw_23 G v0 K_152 (lq2 (F_X3_readLaw_23 G v0 K_152) n) v1 v2 h = some y := hf
    generalize lq2 (F_X3_readLaw_23 G v0 K_152) n = self_23 at hf ih_23
    unfold F_X3_readLaw_23 at hf
    refine e_iload_n (pc := 23) C dX3_readLaw_23 2 rfl rfl ?_
    refine e_bipush (v := (12 : Int32)) (pc := 24) C dX3_readLaw_24 (by decide) ?_
    rcases it_e hf with ⟨c8, hf⟩ | ⟨c8, hf⟩
    · refine e_icmp_gt (pc := 26) (tgt := 152) C dX3_readLaw_26 (by decide) (fun _ => ?_) (fun q => absurd c8 q)
      refine e_lv (lv2 := [(0, .ref v0)]) [0] rfl ?_
      exact hK_152 h hf
    · refine e_icmp_gt (pc := 26) (tgt := 152) C dX3_readLaw_26 (by decide) (fun q => absurd q c8) (fun _ => ?_)
      refine e_iload_n (pc := 29) C dX3_readLaw_29 1 rfl rfl ?_
      rcases it_e hf with ⟨c9, hf⟩ | ⟨c9, hf⟩
      · refine e_if_eq (pc := 30) (tgt := 152) C dX3_readLaw_30 (by decide) (fun _ => ?_) (fun q => absurd c9 q)
        refine e_lv (lv2 := [(0, .ref v0)]) [0] rfl ?_
        exact hK_152 h hf
      · refine e_if_eq (pc := 30) (tgt := 152) C dX3_readLaw_30 (by decide) (fun q => absurd q c9) (fun _ => ?_)
        refine e_aload_n (pc := 33) C dX3_readLaw_33 0 rfl rfl ?_
        obtain ⟨t10, hf⟩ := ck_e hf
        refine e_getr (pc := 34) 3 0 C dX3_readLaw_34 (by decide) (by decide) g240 rfl t10 ?_
        obtain ⟨b11, eb11, hf⟩ := ob_e hf
        refine e_rf eb11 ?_
        obtain ⟨t12, hf⟩ := ck_e hf
        refine e_getiN (pc := 37) 8 9 C dX3_readLaw_37 (by decide) (by decide) g195 rfl t12 ?_
        rcases it_e hf with ⟨c13, hf⟩ | ⟨c13, hf⟩
        · refine e_if_ne (pc := 40) (tgt := 152) C dX3_readLaw_40 (by decide) (fun q => absurd c13 q) (fun _ => ?_)
          refine e_aload_n (pc := 43) C dX3_readLaw_43 0 rfl rfl ?_
          refine e_iload_n (pc := 44) C dX3_readLaw_44 2 rfl rfl ?_
          obtain ⟨h14, y15, hf⟩ := ob_e hf
          refine e_callVv (pc := 45) (st := []) 3 C (lr_ctv (o := 6) (fun hI => st_X3_takePull hI) y15) dX3_readLaw_45 (by decide) t10 g813 g815 g16 g149 g816 hd_X3_takePull rfl ⟨Nat.le_of_ble_eq_true rfl, Nat.le_of_ble_eq_true rfl⟩ ⟨Nat.le_of_ble_eq_true rfl, Nat.le_of_ble_eq_true rfl⟩ rfl (Nat.le_of_ble_eq_true rfl) ?_
          refine e_aload_n (pc := 48) C dX3_readLaw_48 0 rfl rfl ?_
          obtain ⟨t16, hf⟩ := ck_e hf
          obtain ⟨h17, y18, hf⟩ := ob_e hf
          refine e_callVv (pc := 49) (st := []) 3 C (lr_ctv (o := 6) (fun hI => st_X3_readSum hI) y18) dX3_readLaw_49 (by decide) t16 g819 g821 g17 g149 g822 hd_X3_readSum rfl ⟨Nat.le_of_ble_eq_true rfl, Nat.le_of_ble_eq_true rfl⟩ ⟨Nat.le_of_ble_eq_true rfl, Nat.le_of_ble_eq_true rfl⟩ rfl (Nat.le_of_ble_eq_true rfl) ?_
          refine e_aload_n (pc := 52) C dX3_readLaw_52 0 rfl rfl ?_
          obtain ⟨t19, hf⟩ := ck_e hf
          refine e_getr (pc := 53) 3 0 C dX3_readLaw_53 (by decide) (by decide) g240 rfl t19 ?_
          obtain ⟨b20, eb20, hf⟩ := ob_e hf
          refine e_rf eb20 ?_
          obtain ⟨t21, hf⟩ := ck_e hf
          refine e_getiN (pc := 56) 8 9 C dX3_readLaw_56 (by decide) (by decide) g195 rfl t21 ?_
          obtain ⟨j_80, ej_80, hf⟩ := nn_e hf
          have W_80 : ∀ (s0_80 : Int32), j_80 s0_80 = some y → EE G p l e ({ frames := 30, cells := 4, slots := 477, locals := 1362 } : Room) s m args below meth c (some (va_rf y.1), y.2) 4 477 80 [(0, .ref v0), (2, .int v2)] [.int s0_80] h17 0 0 := by
            intro s0_80 hf
            rw [ej_80] at hf
            refine e_istore_n (pc := 80) (lv2 := [(3, .int s0_80), (0, .ref v0), (2, .int v2)]) C hm dX3_readLaw_80 rfl (by decide) rfl ?_
            refine e_iload_n (pc := 81) C dX3_readLaw_81 0 rfl rfl ?_
            obtain ⟨j_97, ej_97, hf⟩ := nn_e hf
            have W_97 : ∀ (h_97 : AH), j_97 h_97 = some y → EE G p l e ({ frames := 30, cells := 4, slots := 477, locals := 1362 } : Room) s m args below meth c (some (va_rf y.1), y.2) 4 477 97 [(0, .ref v0), (2, .int v2), (3, .int s0_80)] [] h_97 0 0 := by
              intro h_97 hf
              rw [ej_97] at hf
              refine e_aload_n (pc := 97) C dX3_readLaw_97 0 rfl rfl ?_
              refine e_iload_n (pc := 98) C dX3_readLaw_98 2 rfl rfl ?_
              obtain ⟨j_111, ej_111, hf⟩ := nn_e hf
              have W_111 : ∀ (s0_111 : Int32), j_111 s0_111 = some y → EE G p l e ({ frames := 30, cells := 4, slots := 477, locals := 1362 } : Room) s m args below meth c (some (va_rf y.1), y.2) 4 477 111 [(0, .ref v0), (2, .int v2)] [.int s0_111, .ref v0] h_97 0 0 := by
                intro s0_111 hf
                rw [ej_111] at hf
                obtain ⟨t22, hf⟩ := ck_e hf
                obtain ⟨h23, y24, hf⟩ := ob_e hf
                refine e_callVv (pc := 111) (st := []) 3 C (lr_ctv (o := 6) (fun hI => st_X3_write hI) y24) dX3_readLaw_111 (by decide) t22 g827 g829 g19 g149 g830 hd_X3_write rfl ⟨Nat.le_of_ble_eq_true rfl, Nat.le_of_ble_eq_true rfl⟩ ⟨Nat.le_of_ble_eq_true rfl, Nat.le_of_ble_eq_true rfl⟩ rfl (Nat.le_of_ble_eq_true rfl) ?_
                refine e_aload_n (pc := 114) C dX3_readLaw_114 0 rfl rfl ?_
                obtain ⟨t25, hf⟩ := ck_e hf
                refine e_getr (pc := 115) 3 0 C dX3_readLaw_115 (by decide) (by decide) g240 rfl t25 ?_
                obtain ⟨b26, eb26, hf⟩ := ob_e hf
                refine e_rf eb26 ?_
                obtain ⟨t27, hf⟩ := ck_e hf
                refine e_getiN (pc := 118) 8 7 C dX3_readLaw_118 (by decide) (by decide) g191 rfl t27 ?_
                refine e_sipush (v := (257 : Int32)) (pc := 121) C dX3_readLaw_121 (by decide) ?_
                obtain ⟨j_132, ej_132, hf⟩ := nn_e hf
                have W_132 : ∀ (s0_132 : Int32), j_132 s0_132 = some y → EE G p l e ({ frames := 30, cells := 4, slots := 477, locals := 1362 } : Room) s m args below meth c (some (va_rf y.1), y.2) 4 477 132 [(0, .ref v0), (2, .int v2)] [.int s0_132] h23 0 0 := by
                  intro s0_132 hf
                  rw [ej_132] at hf
                  refine e_istore_n (pc := 132) (lv2 := [(1, .int s0_132), (0, .ref v0), (2, .int v2)]) C hm dX3_readLaw_132 rfl (by decide) rfl ?_
                  refine e_iload_n (pc := 133) C dX3_readLaw_133 0 rfl rfl ?_
                  obtain ⟨j_146, ej_146, hf⟩ := nn_e hf
                  have W_146 : ∀ (h_146 : AH), j_146 h_146 = some y → EE G p l e ({ frames := 30, cells := 4, slots := 477, locals := 1362 } : Room) s m args below meth c (some (va_rf y.1), y.2) 4 477 146 [(0, .ref v0), (1, .int s0_132), (2, .int v2)] [] h_146 0 0 := by
                    intro h_146 hf
                    rw [ej_146] at hf
                    obtain ⟨x28, ex28, hf⟩ := nn_e hf
                    refine e_iinc (pc := 146) (v := x28) (lv2 := [(2, .int x28), (0, .ref v0), (1, .int s0_132)]) C hm dX3_readLaw_146 2 rfl (by rw [ex28]; rfl) (by decide) rfl ?_
                    refine e_goto (pc := 149) (tgt := 23) C dX3_readLaw_149 (by decide) ?_
                    refine e_lv (lv2 := [(0, .ref v0), (1, .int s0_132), (2, .int x28)]) [1, 2, 0] rfl ?_
                    exact ih_23 s0_132 x28 h_146 hf
                  rcases it_e hf with ⟨c29, hf⟩ | ⟨c29, hf⟩
                  · refine e_if_eq (pc := 134) (tgt := 146) C dX3_readLaw_134 (by decide) (fun _ => ?_) (fun q => absurd c29 q)
                    refine e_lv (lv2 := [(0, .ref v0), (1, .int s0_132), (2, .int v2)]) [1, 0, 2] rfl ?_
                    exact W_146 h23 hf
                  · refine e_if_eq (pc := 134) (tgt := 146) C dX3_readLaw_134 (by decide) (fun q => absurd q c29) (fun _ => ?_)
                    refine e_aload_n (pc := 137) C dX3_readLaw_137 1 rfl rfl ?_
                    refine e_getr (pc := 138) 3 0 C dX3_readLaw_138 (by decide) (by decide) g240 rfl t25 ?_
                    obtain ⟨b30, eb30, hf⟩ := ob_e hf
                    refine e_rf eb30 ?_
                    refine e_bipush (v := (59 : Int32)) (pc := 141) C dX3_readLaw_141 (by decide) ?_
                    obtain ⟨t31, hf⟩ := ck_e hf
                    obtain ⟨h32, y33, hf⟩ := ob_e hf
                    refine e_callVv (pc := 143) (st := []) 8 C (lr_ctv (o := 0) (fun hI => st_X8_takeByte hI) y33) dX3_readLaw_143 (by decide) t31 g846 g769 g770 g147 g771 hd_X8_takeByte rfl ⟨Nat.le_of_ble_eq_true rfl, Nat.le_of_ble_eq_true rfl⟩ ⟨Nat.le_of_ble_eq_true rfl, Nat.le_of_ble_eq_true rfl⟩ rfl (Nat.le_of_ble_eq_true rfl) ?_
                    refine e_lv (lv2 := [(0, .ref v0), (1, .int s0_132), (2, .int v2)]) [1, 0, 2] rfl ?_
                    exact W_146 h32 hf
                rcases it_e hf with ⟨c34, hf⟩ | ⟨c34, hf⟩
                · refine e_icmp_eq (pc := 124) (tgt := 131) C dX3_readLaw_124 (by decide) (fun _ => ?_) (fun q => absurd c34 q)
                  refine e_iconst (v := (0 : Int32)) (pc := 131) C dX3_readLaw_131 (by decide) ?_
                  exact W_132 (0 : Int32) hf
                · refine e_icmp_eq (pc := 124) (tgt := 131) C dX3_readLaw_124 (by decide) (fun q => absurd q c34) (fun _ => ?_)
                  refine e_iconst (v := (1 : Int32)) (pc := 127) C dX3_readLaw_127 (by decide) ?_
                  refine e_goto (pc := 128) (tgt := 132) C dX3_readLaw_128 (by decide) ?_
                  exact W_132 (1 : Int32) hf
              rcases it_e hf with ⟨c35, hf⟩ | ⟨c35, hf⟩
              · refine e_if_eq (pc := 99) (tgt := 108) C dX3_readLaw_99 (by decide) (fun _ => ?_) (fun q => absurd c35 q)
                refine e_sipush (v := (-313 : Int32)) (pc := 108) C dX3_readLaw_108 (by decide) ?_
                refine e_lv (lv2 := [(0, .ref v0), (2, .int v2)]) [0, 1] rfl ?_
                exact W_111 (-313 : Int32) hf
              · refine e_if_eq (pc := 99) (tgt := 108) C dX3_readLaw_99 (by decide) (fun q => absurd q c35) (fun _ => ?_)
                refine e_sipush (v := (-314 : Int32)) (pc := 102) C dX3_readLaw_102 (by decide) ?_
                refine e_goto (pc := 105) (tgt := 111) C dX3_readLaw_105 (by decide) ?_
                refine e_lv (lv2 := [(0, .ref v0), (2, .int v2)]) [0, 1] rfl ?_
                exact W_111 (-314 : Int32) hf
            rcases it_e hf with ⟨c36, hf⟩ | ⟨c36, hf⟩
            · refine e_if_eq (pc := 82) (tgt := 97) C dX3_readLaw_82 (by decide) (fun _ => ?_) (fun q => absurd c36 q)
              refine e_lv (lv2 := [(0, .ref v0), (2, .int v2), (3, .int s0_80)]) [1, 2, 0] rfl ?_
              exact W_97 h17 hf
            · refine e_if_eq (pc := 82) (tgt := 97) C dX3_readLaw_82 (by decide) (fun q => absurd q c36) (fun _ => ?_)
              refine e_aload_n (pc := 85) C dX3_readLaw_85 1 rfl rfl ?_
              refine e_getr (pc := 86) 3 0 C dX3_readLaw_86 (by decide) (by decide) g240 rfl t19 ?_
              obtain ⟨b37, eb37, hf⟩ := ob_e hf
              refine e_rf eb37 ?_
              obtain ⟨t38, hf⟩ := ck_e hf
              obtain ⟨h39, y40, hf⟩ := ob_e hf
              refine e_callVv (pc := 89) (st := []) 8 C (lr_ctv (o := 0) (fun hI => st_X8_advance hI) y40) dX3_readLaw_89 (by decide) t38 g818 g715 g716 g147 g717 hd_X8_advance rfl ⟨Nat.le_of_ble_eq_true rfl, Nat.le_of_ble_eq_true rfl⟩ ⟨Nat.le_of_ble_eq_true rfl, Nat.le_of_ble_eq_true rfl⟩ rfl (Nat.le_of_ble_eq_true rfl) ?_
              refine e_aload_n (pc := 92) C dX3_readLaw_92 1 rfl rfl ?_
              refine e_iconst (v := (0 : Int32)) (pc := 93) C dX3_readLaw_93 (by decide) ?_
              obtain ⟨t41, hf⟩ := ck_e hf
              obtain ⟨h42, y43, hf⟩ := ob_e hf
              refine e_callVv (pc := 94) (st := []) 3 C (lr_ctv (o := 6) (fun hI => st_X3_readTest hI (st_X3_readFact hI 12)) y43) dX3_readLaw_94 (by decide) t41 g834 g836 g20 g149 g837 hd_X3_readTest rfl ⟨Nat.le_of_ble_eq_true rfl, Nat.le_of_ble_eq_true rfl⟩ ⟨Nat.le_of_ble_eq_true rfl, Nat.le_of_ble_eq_true rfl⟩ rfl (Nat.le_of_ble_eq_true rfl) ?_
              refine e_lv (lv2 := [(0, .ref v0), (2, .int v2), (3, .int s0_80)]) [1, 2, 0] rfl ?_
              exact W_97 h42 hf
          obtain ⟨j_79, ej_79, hf⟩ := nn_e hf
          have W_79 : ∀ (uu_79 : Unit), j_79 uu_79 = some y → EE G p l e ({ frames := 30, cells := 4, slots := 477, locals := 1362 } : Room) s m args below meth c (some (va_rf y.1), y.2) 4 477 79 [(0, .ref v0), (2, .int v2)] [] h17 0 0 := by
            intro uu_79 hf
            rw [ej_79] at hf
            refine e_iconst (v := (0 : Int32)) (pc := 79) C dX3_readLaw_79 (by decide) ?_
            exact W_80 (0 : Int32) hf
          rcases it_e hf with ⟨c44, hf⟩ | ⟨c44, hf⟩
          · refine e_if_ne (pc := 59) (tgt := 79) C dX3_readLaw_59 (by decide) (fun q => absurd c44 q) (fun _ => ?_)
            refine e_aload_n (pc := 62) C dX3_readLaw_62 0 rfl rfl ?_
            refine e_getr (pc := 63) 3 0 C dX3_readLaw_63 (by decide) (by decide) g240 rfl t19 ?_
            obtain ⟨b45, eb45, hf⟩ := ob_e hf
            refine e_rf eb45 ?_
            obtain ⟨t46, hf⟩ := ck_e hf
            refine e_getiN (pc := 66) 8 7 C dX3_readLaw_66 (by decide) (by decide) g191 rfl t46 ?_
            refine e_sipush (v := (314 : Int32)) (pc := 69) C dX3_readLaw_69 (by decide) ?_
            rcases it_e hf with ⟨c47, hf⟩ | ⟨c47, hf⟩
            · refine e_icmp_ne (pc := 72) (tgt := 79) C dX3_readLaw_72 (by decide) (fun q => absurd c47 q) (fun _ => ?_)
              refine e_iconst (v := (1 : Int32)) (pc := 75) C dX3_readLaw_75 (by decide) ?_
              refine e_goto (pc := 76) (tgt := 80) C dX3_readLaw_76 (by decide) ?_
              refine e_lv (lv2 := [(0, .ref v0), (2, .int v2)]) [0, 2] rfl ?_
              exact W_80 (1 : Int32) hf
            · refine e_icmp_ne (pc := 72) (tgt := 79) C dX3_readLaw_72 (by decide) (fun _ => ?_) (fun q => absurd q c47)
              refine e_lv (lv2 := [(0, .ref v0), (2, .int v2)]) [0, 2] rfl ?_
              exact W_79 () hf
          · refine e_if_ne (pc := 59) (tgt := 79) C dX3_readLaw_59 (by decide) (fun _ => ?_) (fun q => absurd q c44)
            refine e_lv (lv2 := [(0, .ref v0), (2, .int v2)]) [0, 2] rfl ?_
            exact W_79 () hf
        · refine e_if_ne (pc := 40) (tgt := 152) C dX3_readLaw_40 (by decide) (fun _ => ?_) (fun q => absurd q c13)
          refine e_lv (lv2 := [(0, .ref v0)]) [0] rfl ?_
          exact hK_152 h hf
set_option maxHeartbeats 4000000 in
set_option maxRecDepth 100000 in
theorem ct_X3_readLaw {G : GG} {l : Launch} {v0 : Nat} {h : AH} {y : Option Nat × AH} (hf : f_X3_readLaw G v0 h = some y) : Ct G l yX3_readLaw cX3_readLaw 4 (some (.object "StrapWindow$Law")) 30 1362 4 477 [.ref v0] h (some (va_rf y.1), y.2) := by
  refine ct_of (by decide) (Nat.le_of_ble_eq_true rfl) ?_
  intro p e s m args below meth c C hm hr hin
  have C : Cx G cX3_readLaw RX3 p s m args meth c := C
  refine e_lv (lv2 := [(0, .ref v0)]) [0] rfl ?_
  unfold f_X3_readLaw at hf
  refine e_aload_n (pc := 0) C dX3_readLaw_0 0 rfl rfl ?_
  refine e_iconst (v := (0 : Int32)) (pc := 1) C dX3_readLaw_1 (by decide) ?_
  obtain ⟨t1, hf⟩ := ck_e hf
  refine e_puti (pc := 2) 3 2 C dX3_readLaw_2 (by decide) (by decide) g242 rfl rfl rfl rfl t1 ?_
  obtain ⟨h2, eh2, hf⟩ := nn_e hf
  refine e_hp eh2 ?_
  have uh2 : m_t h2 = m_t h := by rw [eh2]; exact rfl
  refine e_aload_n (pc := 5) C dX3_readLaw_5 0 rfl rfl ?_
  refine e_iconst (v := (0 : Int32)) (pc := 6) C dX3_readLaw_6 (by decide) ?_
  refine e_puti (pc := 7) 3 3 C dX3_readLaw_7 (by decide) (by decide) g243 rfl rfl rfl rfl (e_mt uh2 t1) ?_
  obtain ⟨h3, eh3, hf⟩ := nn_e hf
  refine e_hp eh3 ?_
  have uh3 : m_t h3 = m_t h := by rw [eh3]; exact uh2
  refine e_aload_n (pc := 10) C dX3_readLaw_10 0 rfl rfl ?_
  refine e_getr (pc := 11) 3 0 C dX3_readLaw_11 (by decide) (by decide) g240 rfl (e_mt uh3 t1) ?_
  obtain ⟨b4, eb4, hf⟩ := ob_e hf
  refine e_rf eb4 ?_
  refine e_ldcS (pc := 14) C dX3_readLaw_14 1 rfl ?_
  obtain ⟨t5, hf⟩ := ck_e hf
  obtain ⟨h6, y7, hf⟩ := ob_e hf
  refine e_callVv (pc := 16) (st := []) 8 C (lr_ctv (o := 0) (fun hI => st_X8_open hI) y7) dX3_readLaw_16 (by decide) t5 g812 g637 g638 g147 g639 hd_X8_open rfl ⟨Nat.le_of_ble_eq_true rfl, Nat.le_of_ble_eq_true rfl⟩ ⟨Nat.le_of_ble_eq_true rfl, Nat.le_of_ble_eq_true rfl⟩ rfl (Nat.le_of_ble_eq_true rfl) ?_
  refine e_iconst (v := (1 : Int32)) (pc := 19) C dX3_readLaw_19 (by decide) ?_
  refine e_istore_n (pc := 20) (lv2 := [(1, .int (1 : Int32)), (0, .ref v0)]) C hm dX3_readLaw_20 rfl (by decide) rfl ?_
  refine e_iconst (v := (0 : Int32)) (pc := 21) C dX3_readLaw_21 (by decide) ?_
  refine e_istore_n (pc := 22) (lv2 := [(2, .int (0 : Int32)), (1, .int (1 : Int32)), (0, .ref v0)]) C hm dX3_readLaw_22 rfl (by decide) rfl ?_
  refine e_lv (lv2 := [(0, .ref v0), (1, .int (1 : Int32)), (2, .int (0 : Int32))]) [2, 1, 0] rfl ?_
  refine el_X3_readLaw_23 C hm hr hin (fun h_152 hf => ?_) bN (1 : Int32) (0 : Int32) h6 hf
  refine e_aload_n (pc := 152) C dX3_readLaw_152 0 rfl rfl ?_
  obtain ⟨t48, hf⟩ := ck_e hf
  refine e_getr (pc := 153) 3 0 C dX3_readLaw_153 (by decide) (by decide) g240 rfl t48 ?_
  obtain ⟨b49, eb49, hf⟩ := ob_e hf
  refine e_rf eb49 ?_
  obtain ⟨t50, hf⟩ := ck_e hf
  refine e_getiN (pc := 156) 8 9 C dX3_readLaw_156 (by decide) (by decide) g195 rfl t50 ?_
  rcases it_e hf with ⟨c51, hf⟩ | ⟨c51, hf⟩
  · refine e_if_ne (pc := 159) (tgt := 183) C dX3_readLaw_159 (by decide) (fun q => absurd c51 q) (fun _ => ?_)
    refine e_new (pc := 162) (ci := 2) C dX3_readLaw_162 (by decide) g850 g851 g163 (Nat.le_of_ble_eq_true rfl) (Nat.le_of_ble_eq_true rfl) ?_
    obtain ⟨x52, ex52, hf⟩ := nn_e hf
    refine e_topr ex52 ?_
    obtain ⟨h53, eh53, hf⟩ := nn_e hf
    refine e_hp eh53 ?_
    have tx52 : m_t h53 x52 = .inl 2 := by rw [eh53, ex52]; simp [m_t, m_new, m_n, va_up]
    refine e_dup (pc := 165) C dX3_readLaw_165 rfl ?_
    refine e_aload_n (pc := 166) C dX3_readLaw_166 0 rfl rfl ?_
    obtain ⟨t54, hf⟩ := ck_e hf
    refine e_getr (pc := 167) 3 1 C dX3_readLaw_167 (by decide) (by decide) g241 rfl t54 ?_
    obtain ⟨b55, eb55, hf⟩ := ob_e hf
    refine e_rf eb55 ?_
    refine e_aload_n (pc := 170) C dX3_readLaw_170 0 rfl rfl ?_
    refine e_geti (pc := 171) 3 2 C dX3_readLaw_171 (by decide) (by decide) g242 rfl t54 ?_
    obtain ⟨r58, h56, y57, hf⟩ := cb_e hf
    refine e_callSi (pc := 174) (st := [.ref x52, .ref x52]) C (ct_J7_copyOf_59c91 y57) dX3_readLaw_174 g852 g853 g162 g854 hd_J7_copyOf_59c91 rfl ⟨Nat.le_of_ble_eq_true rfl, Nat.le_of_ble_eq_true rfl⟩ ⟨Nat.le_of_ble_eq_true rfl, Nat.le_of_ble_eq_true rfl⟩ rfl (Nat.le_of_ble_eq_true rfl) ?_
    obtain ⟨h59, y60, hf⟩ := ob_e hf
    refine e_callIv (pc := 177) (st := [.ref x52]) C (ct_X2_init y60) dX3_readLaw_177 g868 g869 g163 g870 rfl hd_X2_init rfl ⟨Nat.le_of_ble_eq_true rfl, Nat.le_of_ble_eq_true rfl⟩ ⟨Nat.le_of_ble_eq_true rfl, Nat.le_of_ble_eq_true rfl⟩ rfl (Nat.le_of_ble_eq_true rfl) ?_
    refine e_goto (pc := 180) (tgt := 184) C dX3_readLaw_180 (by decide) ?_
    obtain rfl := so_e hf
    exact e_aret (pc := 184) (r := some x52) C hr (by simp) dX3_readLaw_184 (Nat.le_of_ble_eq_true rfl) (Nat.le_of_ble_eq_true rfl)
  · refine e_if_ne (pc := 159) (tgt := 183) C dX3_readLaw_159 (by decide) (fun _ => ?_) (fun q => absurd q c51)
    refine e_null (pc := 183) C dX3_readLaw_183 ?_
    obtain rfl := so_e hf
    exact e_aret (pc := 184) (r := none) C hr (by simp) dX3_readLaw_184 (Nat.le_of_ble_eq_true rfl) (Nat.le_of_ble_eq_true rfl)
theorem dX11_rule_0 : decode cX11_rule 0 = .ok (.aload_n 0, 1) := by decide +kernel
theorem dX11_rule_1 : decode cX11_rule 1 = .ok (.getfield 38, 3) := by decide +kernel
theorem dX11_rule_4 : decode cX11_rule 4 = .ok (.bipush 6, 2) := by decide +kernel
theorem dX11_rule_6 : decode cX11_rule 6 = .ok (.if_icmp .lt 5, 3) := by decide +kernel
theorem dX11_rule_9 : decode cX11_rule 9 = .ok (.iconst (-1), 1) := by decide +kernel
theorem dX11_rule_10 : decode cX11_rule 10 = .ok (.ireturn, 1) := by decide +kernel
theorem dX11_rule_11 : decode cX11_rule 11 = .ok (.aload_n 0, 1) := by decide +kernel
theorem dX11_rule_12 : decode cX11_rule 12 = .ok (.getfield 28, 3) := by decide +kernel
theorem dX11_rule_15 : decode cX11_rule 15 = .ok (.invokevirtual 122, 3) := by decide +kernel
theorem dX11_rule_18 : decode cX11_rule 18 = .ok (.astore_n 1, 1) := by decide +kernel
theorem dX11_rule_19 : decode cX11_rule 19 = .ok (.aload_n 0, 1) := by decide +kernel
theorem dX11_rule_20 : decode cX11_rule 20 = .ok (.getfield 10, 3) := by decide +kernel
theorem dX11_rule_23 : decode cX11_rule 23 = .ok (.iconst 0, 1) := by decide +kernel
theorem dX11_rule_24 : decode cX11_rule 24 = .ok (.putfield 102, 3) := by decide +kernel
theorem dX11_rule_27 : decode cX11_rule 27 = .ok (.aload_n 1, 1) := by decide +kernel
theorem dX11_rule_28 : decode cX11_rule 28 = .ok (.ifnonnull 14, 3) := by decide +kernel
theorem dX11_rule_31 : decode cX11_rule 31 = .ok (.bipush (-2), 2) := by decide +kernel
theorem dX11_rule_33 : decode cX11_rule 33 = .ok (.aload_n 0, 1) := by decide +kernel
theorem dX11_rule_34 : decode cX11_rule 34 = .ok (.getfield 10, 3) := by decide +kernel
theorem dX11_rule_37 : decode cX11_rule 37 = .ok (.getfield 113, 3) := by decide +kernel
theorem dX11_rule_40 : decode cX11_rule 40 = .ok (.isub, 1) := by decide +kernel
theorem dX11_rule_41 : decode cX11_rule 41 = .ok (.ireturn, 1) := by decide +kernel
theorem dX11_rule_42 : decode cX11_rule 42 = .ok (.aload_n 0, 1) := by decide +kernel
theorem dX11_rule_43 : decode cX11_rule 43 = .ok (.getfield 34, 3) := by decide +kernel
theorem dX11_rule_46 : decode cX11_rule 46 = .ok (.aload_n 0, 1) := by decide +kernel
theorem dX11_rule_47 : decode cX11_rule 47 = .ok (.getfield 38, 3) := by decide +kernel
theorem dX11_rule_50 : decode cX11_rule 50 = .ok (.aload_n 1, 1) := by decide +kernel
theorem dX11_rule_51 : decode cX11_rule 51 = .ok (.aastore, 1) := by decide +kernel
theorem dX11_rule_52 : decode cX11_rule 52 = .ok (.aload_n 0, 1) := by decide +kernel
theorem dX11_rule_53 : decode cX11_rule 53 = .ok (.dup, 1) := by decide +kernel
theorem dX11_rule_54 : decode cX11_rule 54 = .ok (.getfield 38, 3) := by decide +kernel
theorem dX11_rule_57 : decode cX11_rule 57 = .ok (.iconst 1, 1) := by decide +kernel
theorem dX11_rule_58 : decode cX11_rule 58 = .ok (.iadd, 1) := by decide +kernel
theorem dX11_rule_59 : decode cX11_rule 59 = .ok (.putfield 38, 3) := by decide +kernel
theorem dX11_rule_62 : decode cX11_rule 62 = .ok (.aload_n 0, 1) := by decide +kernel
theorem dX11_rule_63 : decode cX11_rule 63 = .ok (.getfield 38, 3) := by decide +kernel
theorem dX11_rule_66 : decode cX11_rule 66 = .ok (.iconst 1, 1) := by decide +kernel
theorem dX11_rule_67 : decode cX11_rule 67 = .ok (.isub, 1) := by decide +kernel
theorem dX11_rule_68 : decode cX11_rule 68 = .ok (.ireturn, 1) := by decide +kernel
noncomputable def f_X11_rule (G : GG) (v0 : Nat) (h : AH) : Option (Int32 × AH) :=
ck (m_t h v0 = .inl 11) <|
if (m_i h v0 4) < (6 : Int32) then (ob (m_r h v0 2) fun b3 =>
ck (m_t h b3 = .inl 3) <|
cb (f_X3_readLaw G b3 h) fun r7 h5 =>
ck (m_t h5 v0 = .inl 11) <|
ob (m_r h5 v0 0) fun b9 =>
ck (m_t h5 b9 = .inl 8) <|
nn (m_si h5 b9 1 (0 : Int32)) fun h11 =>
on (r7) (ob (m_r h11 v0 0) fun b14 =>
ck (m_t h11 b14 = .inl 8) <|
some ((-2 : Int32) - (m_i h11 b14 9), h11)) fun b12 =>
ob (m_r h11 v0 3) fun b16 =>
ck (m_t h11 b12 = .inl 2) <|
ck (ixb h11 b16 (.object RX2) (m_i h11 v0 4) = true) <|
nn (m_sr h11 b16 (m_i h11 v0 4).toNatClampNeg (some b12)) fun h20 =>
nn (m_si h20 v0 4 ((m_i h20 v0 4) + (1 : Int32))) fun h21 =>
some ((m_i h21 v0 4) - (1 : Int32), h21)) else
some ((-1 : Int32), h)
set_option maxHeartbeats 4000000 in
set_option maxRecDepth 100000 in
theorem ct_X11_rule {G : GG} {l : Launch} {v0 : Nat} {h : AH} {y : Int32 × AH} (hf : f_X11_rule G v0 h = some y) : Ct G l yX11_rule cX11_rule 2 (some .int) 31 1385 4 477 [.ref v0] h (some (.int y.1), y.2) := by
  refine ct_of (by decide) (Nat.le_of_ble_eq_true rfl) ?_
  intro p e s m args below meth c C hm hr hin
  have C : Cx G cX11_rule RX11 p s m args meth c := C
  refine e_lv (lv2 := [(0, .ref v0)]) [0] rfl ?_
  unfold f_X11_rule at hf
  refine e_aload_n (pc := 0) C dX11_rule_0 0 rfl rfl ?_
  obtain ⟨t1, hf⟩ := ck_e hf
  refine e_geti (pc := 1) 11 4 C dX11_rule_1 (by decide) (by decide) g577 rfl t1 ?_
  refine e_bipush (v := (6 : Int32)) (pc := 4) C dX11_rule_4 (by decide) ?_
  rcases it_e hf with ⟨c2, hf⟩ | ⟨c2, hf⟩
  · refine e_icmp_lt (pc := 6) (tgt := 11) C dX11_rule_6 (by decide) (fun _ => ?_) (fun q => absurd c2 q)
    refine e_aload_n (pc := 11) C dX11_rule_11 0 rfl rfl ?_
    refine e_getr (pc := 12) 11 2 C dX11_rule_12 (by decide) (by decide) g575 rfl t1 ?_
    obtain ⟨b3, eb3, hf⟩ := ob_e hf
    refine e_rf eb3 ?_
    obtain ⟨t4, hf⟩ := ck_e hf
    obtain ⟨r7, h5, y6, hf⟩ := cb_e hf
    refine e_callVi (pc := 15) (st := []) 3 C (ct_X3_readLaw y6) dX11_rule_15 (by decide) t4 g807 g808 g809 g149 g810 hd_X3_readLaw rfl ⟨Nat.le_of_ble_eq_true rfl, Nat.le_of_ble_eq_true rfl⟩ ⟨Nat.le_of_ble_eq_true rfl, Nat.le_of_ble_eq_true rfl⟩ rfl (Nat.le_of_ble_eq_true rfl) ?_
    refine e_astoreo_n (pc := 18) (lv2 := [(1, va_rf r7), (0, .ref v0)]) C hm dX11_rule_18 rfl (by decide) rfl ?_
    refine e_aload_n (pc := 19) C dX11_rule_19 1 rfl rfl ?_
    obtain ⟨t8, hf⟩ := ck_e hf
    refine e_getr (pc := 20) 11 0 C dX11_rule_20 (by decide) (by decide) g573 rfl t8 ?_
    obtain ⟨b9, eb9, hf⟩ := ob_e hf
    refine e_rf eb9 ?_
    refine e_iconst (v := (0 : Int32)) (pc := 23) C dX11_rule_23 (by decide) ?_
    obtain ⟨t10, hf⟩ := ck_e hf
    refine e_putiN (pc := 24) 8 1 C dX11_rule_24 (by decide) (by decide) g183 rfl rfl rfl rfl t10 ?_
    obtain ⟨h11, eh11, hf⟩ := nn_e hf
    refine e_hp eh11 ?_
    have uh11 : m_t h11 = m_t h5 := by rw [eh11]; exact rfl
    refine e_aloado_n (pc := 27) C dX11_rule_27 0 rfl rfl ?_
    rcases on_e hf with ⟨c13, hf⟩ | ⟨b12, c13, hf⟩
    · refine e_nonnullN (pc := 28) c13 C dX11_rule_28 ?_
      refine e_bipush (v := (-2 : Int32)) (pc := 31) C dX11_rule_31 (by decide) ?_
      refine e_aload_n (pc := 33) C dX11_rule_33 1 rfl rfl ?_
      refine e_getr (pc := 34) 11 0 C dX11_rule_34 (by decide) (by decide) g573 rfl (e_mt uh11 t8) ?_
      obtain ⟨b14, eb14, hf⟩ := ob_e hf
      refine e_rf eb14 ?_
      obtain ⟨t15, hf⟩ := ck_e hf
      refine e_getiN (pc := 37) 8 9 C dX11_rule_37 (by decide) (by decide) g197 rfl t15 ?_
      refine e_isub (pc := 40) C dX11_rule_40 ?_
      obtain rfl := so_e hf
      exact e_iret (pc := 41) C hr dX11_rule_41 (Nat.le_of_ble_eq_true rfl) (Nat.le_of_ble_eq_true rfl)
    · refine e_nonnullS (pc := 28) (tgt := 42) c13 C dX11_rule_28 (by decide) ?_
      refine e_lv (lv2 := [(1, .ref b12), (0, .ref v0)]) [0, 1] (by rw [c13]; rfl) ?_
      refine e_aload_n (pc := 42) C dX11_rule_42 1 rfl rfl ?_
      refine e_getr (pc := 43) 11 3 C dX11_rule_43 (by decide) (by decide) g576 rfl (e_mt uh11 t8) ?_
      obtain ⟨b16, eb16, hf⟩ := ob_e hf
      refine e_rf eb16 ?_
      refine e_aload_n (pc := 46) C dX11_rule_46 1 rfl rfl ?_
      refine e_geti (pc := 47) 11 4 C dX11_rule_47 (by decide) (by decide) g577 rfl (e_mt uh11 t8) ?_
      refine e_aload_n (pc := 50) C dX11_rule_50 0 rfl rfl ?_
      obtain ⟨t17, hf⟩ := ck_e hf
      obtain ⟨q18, hf⟩ := ck_e hf
      obtain ⟨n19, tn19, in19⟩ := ix_e q18
      refine e_aast (pc := 51) (ci := 2) 5 (by decide) rfl C dX11_rule_51 tn19 t17 in19 ?_
      obtain ⟨h20, eh20, hf⟩ := nn_e hf
      refine e_hp eh20 ?_
      have uh20 : m_t h20 = m_t h5 := by rw [eh20]; exact uh11
      refine e_aload_n (pc := 52) C dX11_rule_52 1 rfl rfl ?_
      refine e_dup (pc := 53) C dX11_rule_53 rfl ?_
      refine e_geti (pc := 54) 11 4 C dX11_rule_54 (by decide) (by decide) g577 rfl (e_mt uh20 t8) ?_
      refine e_iconst (v := (1 : Int32)) (pc := 57) C dX11_rule_57 (by decide) ?_
      refine e_iadd (pc := 58) C dX11_rule_58 ?_
      refine e_puti (pc := 59) 11 4 C dX11_rule_59 (by decide) (by decide) g577 rfl rfl rfl rfl (e_mt uh20 t8) ?_
      obtain ⟨h21, eh21, hf⟩ := nn_e hf
      refine e_hp eh21 ?_
      have uh21 : m_t h21 = m_t h5 := by rw [eh21]; exact uh20
      refine e_aload_n (pc := 62) C dX11_rule_62 1 rfl rfl ?_
      refine e_geti (pc := 63) 11 4 C dX11_rule_63 (by decide) (by decide) g577 rfl (e_mt uh21 t8) ?_
      refine e_iconst (v := (1 : Int32)) (pc := 66) C dX11_rule_66 (by decide) ?_
      refine e_isub (pc := 67) C dX11_rule_67 ?_
      obtain rfl := so_e hf
      exact e_iret (pc := 68) C hr dX11_rule_68 (Nat.le_of_ble_eq_true rfl) (Nat.le_of_ble_eq_true rfl)
  · refine e_icmp_lt (pc := 6) (tgt := 11) C dX11_rule_6 (by decide) (fun q => absurd q c2) (fun _ => ?_)
    refine e_iconst (v := (-1 : Int32)) (pc := 9) C dX11_rule_9 (by decide) ?_
    obtain rfl := so_e hf
    exact e_iret (pc := 10) C hr dX11_rule_10 (Nat.le_of_ble_eq_true rfl) (Nat.le_of_ble_eq_true rfl)
theorem dX11_hasLaw_0 : decode cX11_hasLaw 0 = .ok (.iload_n 1, 1) := by decide +kernel
theorem dX11_hasLaw_1 : decode cX11_hasLaw 1 = .ok (.ifCond .lt 15, 3) := by decide +kernel
theorem dX11_hasLaw_4 : decode cX11_hasLaw 4 = .ok (.iload_n 1, 1) := by decide +kernel
theorem dX11_hasLaw_5 : decode cX11_hasLaw 5 = .ok (.aload_n 0, 1) := by decide +kernel
theorem dX11_hasLaw_6 : decode cX11_hasLaw 6 = .ok (.getfield 38, 3) := by decide +kernel
theorem dX11_hasLaw_9 : decode cX11_hasLaw 9 = .ok (.if_icmp .ge 7, 3) := by decide +kernel
theorem dX11_hasLaw_12 : decode cX11_hasLaw 12 = .ok (.iconst 1, 1) := by decide +kernel
theorem dX11_hasLaw_13 : decode cX11_hasLaw 13 = .ok (.goto 4, 3) := by decide +kernel
theorem dX11_hasLaw_16 : decode cX11_hasLaw 16 = .ok (.iconst 0, 1) := by decide +kernel
theorem dX11_hasLaw_17 : decode cX11_hasLaw 17 = .ok (.ireturn, 1) := by decide +kernel
noncomputable def f_X11_hasLaw (G : GG) (v0 : Nat) (v1 : Int32) (h : AH) : Option (Int32 × AH) :=
if v1 < 0 then (some ((0 : Int32), h)) else
ck (m_t h v0 = .inl 11) <|
if (m_i h v0 4) ≤ v1 then (some ((0 : Int32), h)) else
some ((1 : Int32), h)
set_option maxHeartbeats 4000000 in
set_option maxRecDepth 100000 in
theorem ct_X11_hasLaw {G : GG} {l : Launch} {v0 : Nat} {v1 : Int32} {h : AH} {y : Int32 × AH} (hf : f_X11_hasLaw G v0 v1 h = some y) : Ct G l yX11_hasLaw cX11_hasLaw 2 (some .boolean) 0 0 0 0 [.ref v0, .int v1] h (some (.int y.1), y.2) := by
  refine ct_of (by decide) (Nat.le_of_ble_eq_true rfl) ?_
  intro p e s m args below meth c C hm hr hin
  have C : Cx G cX11_hasLaw RX11 p s m args meth c := C
  refine e_lv (lv2 := [(0, .ref v0), (1, .int v1)]) [0, 1] rfl ?_
  unfold f_X11_hasLaw at hf
  refine e_iload_n (pc := 0) C dX11_hasLaw_0 1 rfl rfl ?_
  rcases it_e hf with ⟨c1, hf⟩ | ⟨c1, hf⟩
  · refine e_if_lt (pc := 1) (tgt := 16) C dX11_hasLaw_1 (by decide) (fun _ => ?_) (fun q => absurd c1 q)
    refine e_iconst (v := (0 : Int32)) (pc := 16) C dX11_hasLaw_16 (by decide) ?_
    obtain rfl := so_e hf
    exact e_zret (pc := 17) (v := (0 : Int32)) C hr (nz_ok (by decide)) dX11_hasLaw_17 (Nat.le_of_ble_eq_true rfl) (Nat.le_of_ble_eq_true rfl)
  · refine e_if_lt (pc := 1) (tgt := 16) C dX11_hasLaw_1 (by decide) (fun q => absurd q c1) (fun _ => ?_)
    refine e_iload_n (pc := 4) C dX11_hasLaw_4 1 rfl rfl ?_
    refine e_aload_n (pc := 5) C dX11_hasLaw_5 0 rfl rfl ?_
    obtain ⟨t2, hf⟩ := ck_e hf
    refine e_geti (pc := 6) 11 4 C dX11_hasLaw_6 (by decide) (by decide) g577 rfl t2 ?_
    rcases it_e hf with ⟨c3, hf⟩ | ⟨c3, hf⟩
    · refine e_icmp_ge (pc := 9) (tgt := 16) C dX11_hasLaw_9 (by decide) (fun _ => ?_) (fun q => absurd c3 q)
      refine e_iconst (v := (0 : Int32)) (pc := 16) C dX11_hasLaw_16 (by decide) ?_
      obtain rfl := so_e hf
      exact e_zret (pc := 17) (v := (0 : Int32)) C hr (nz_ok (by decide)) dX11_hasLaw_17 (Nat.le_of_ble_eq_true rfl) (Nat.le_of_ble_eq_true rfl)
    · refine e_icmp_ge (pc := 9) (tgt := 16) C dX11_hasLaw_9 (by decide) (fun q => absurd q c3) (fun _ => ?_)
      refine e_iconst (v := (1 : Int32)) (pc := 12) C dX11_hasLaw_12 (by decide) ?_
      refine e_goto (pc := 13) (tgt := 17) C dX11_hasLaw_13 (by decide) ?_
      obtain rfl := so_e hf
      exact e_zret (pc := 17) (v := (1 : Int32)) C hr (nz_ok (by decide)) dX11_hasLaw_17 (Nat.le_of_ble_eq_true rfl) (Nat.le_of_ble_eq_true rfl)
theorem dX11_force_0 : decode cX11_force 0 = .ok (.iload_n 1, 1) := by decide +kernel
theorem dX11_force_1 : decode cX11_force 1 = .ok (.iconst (-1), 1) := by decide +kernel
theorem dX11_force_2 : decode cX11_force 2 = .ok (.if_icmp .eq 14, 3) := by decide +kernel
theorem dX11_force_5 : decode cX11_force 5 = .ok (.aload_n 0, 1) := by decide +kernel
theorem dX11_force_6 : decode cX11_force 6 = .ok (.iload_n 1, 1) := by decide +kernel
theorem dX11_force_7 : decode cX11_force 7 = .ok (.invokevirtual 126, 3) := by decide +kernel
theorem dX11_force_10 : decode cX11_force 10 = .ok (.ifCond .ne 6, 3) := by decide +kernel
theorem dX11_force_13 : decode cX11_force 13 = .ok (.bipush (-2), 2) := by decide +kernel
theorem dX11_force_15 : decode cX11_force 15 = .ok (.ireturn, 1) := by decide +kernel
theorem dX11_force_16 : decode cX11_force 16 = .ok (.aload_n 0, 1) := by decide +kernel
theorem dX11_force_17 : decode cX11_force 17 = .ok (.getfield 55, 3) := by decide +kernel
theorem dX11_force_20 : decode cX11_force 20 = .ok (.getfield 130, 3) := by decide +kernel
theorem dX11_force_23 : decode cX11_force 23 = .ok (.istore_n 2, 1) := by decide +kernel
theorem dX11_force_24 : decode cX11_force 24 = .ok (.aload_n 0, 1) := by decide +kernel
theorem dX11_force_25 : decode cX11_force 25 = .ok (.getfield 55, 3) := by decide +kernel
theorem dX11_force_28 : decode cX11_force 28 = .ok (.iload_n 1, 1) := by decide +kernel
theorem dX11_force_29 : decode cX11_force 29 = .ok (.putfield 130, 3) := by decide +kernel
theorem dX11_force_32 : decode cX11_force 32 = .ok (.iload_n 2, 1) := by decide +kernel
theorem dX11_force_33 : decode cX11_force 33 = .ok (.ireturn, 1) := by decide +kernel
noncomputable def f_X11_force (G : GG) (v0 : Nat) (v1 : Int32) (h : AH) : Option (Int32 × AH) :=
nn (fun (h_16 : AH) => (ck (m_t h_16 v0 = .inl 11) <|
ob (m_r h_16 v0 5) fun b2 =>
ck (m_t h_16 b2 = .inl 6) <|
nn (m_i h_16 b2 2) fun x4 =>
ob (m_r h_16 v0 5) fun b5 =>
ck (m_t h_16 b5 = .inl 6) <|
nn (m_si h_16 b5 2 v1) fun h7 =>
some (x4, h7))) fun j_16 =>
if v1 = (-1 : Int32) then (j_16 h) else
ck (m_t h v0 = .inl 11) <|
cb (f_X11_hasLaw G v0 v1 h) fun r12 h10 =>
if r12 = 0 then (some ((-2 : Int32), h10)) else
j_16 h10
set_option maxHeartbeats 4000000 in
set_option maxRecDepth 100000 in
theorem ct_X11_force {G : GG} {l : Launch} {v0 : Nat} {v1 : Int32} {h : AH} {y : Int32 × AH} (hf : f_X11_force G v0 v1 h = some y) : Ct G l yX11_force cX11_force 3 (some .int) 1 21 0 0 [.ref v0, .int v1] h (some (.int y.1), y.2) := by
  refine ct_of (by decide) (Nat.le_of_ble_eq_true rfl) ?_
  intro p e s m args below meth c C hm hr hin
  have C : Cx G cX11_force RX11 p s m args meth c := C
  refine e_lv (lv2 := [(0, .ref v0), (1, .int v1)]) [0, 1] rfl ?_
  unfold f_X11_force at hf
  refine e_iload_n (pc := 0) C dX11_force_0 1 rfl rfl ?_
  refine e_iconst (v := (-1 : Int32)) (pc := 1) C dX11_force_1 (by decide) ?_
  obtain ⟨j_16, ej_16, hf⟩ := nn_e hf
  have W_16 : ∀ (h_16 : AH), j_16 h_16 = some y → EE G p l e ({ frames := 1, cells := 0, slots := 0, locals := 21 } : Room) s m args below meth c (some (.int y.1), y.2) 0 0 16 [(0, .ref v0), (1, .int v1)] [] h_16 0 0 := by
    intro h_16 hf
    rw [ej_16] at hf
    refine e_aload_n (pc := 16) C dX11_force_16 0 rfl rfl ?_
    obtain ⟨t1, hf⟩ := ck_e hf
    refine e_getr (pc := 17) 11 5 C dX11_force_17 (by decide) (by decide) g578 rfl t1 ?_
    obtain ⟨b2, eb2, hf⟩ := ob_e hf
    refine e_rf eb2 ?_
    obtain ⟨t3, hf⟩ := ck_e hf
    refine e_getiN (pc := 20) 6 2 C dX11_force_20 (by decide) (by decide) g463 rfl t3 ?_
    obtain ⟨x4, ex4, hf⟩ := nn_e hf
    refine e_topi ex4 ?_
    refine e_istore_n (pc := 23) (lv2 := [(2, .int x4), (0, .ref v0), (1, .int v1)]) C hm dX11_force_23 rfl (by decide) rfl ?_
    refine e_aload_n (pc := 24) C dX11_force_24 1 rfl rfl ?_
    refine e_getr (pc := 25) 11 5 C dX11_force_25 (by decide) (by decide) g578 rfl t1 ?_
    obtain ⟨b5, eb5, hf⟩ := ob_e hf
    refine e_rf eb5 ?_
    refine e_iload_n (pc := 28) C dX11_force_28 2 rfl rfl ?_
    obtain ⟨t6, hf⟩ := ck_e hf
    refine e_putiN (pc := 29) 6 2 C dX11_force_29 (by decide) (by decide) g463 rfl rfl rfl rfl t6 ?_
    obtain ⟨h7, eh7, hf⟩ := nn_e hf
    refine e_hp eh7 ?_
    have uh7 : m_t h7 = m_t h_16 := by rw [eh7]; exact rfl
    refine e_iload_n (pc := 32) C dX11_force_32 0 rfl rfl ?_
    obtain rfl := so_e hf
    exact e_iret (pc := 33) C hr dX11_force_33 (Nat.le_of_ble_eq_true rfl) (Nat.le_of_ble_eq_true rfl)
  rcases it_e hf with ⟨c8, hf⟩ | ⟨c8, hf⟩
  · refine e_icmp_eq (pc := 2) (tgt := 16) C dX11_force_2 (by decide) (fun _ => ?_) (fun q => absurd c8 q)
    exact W_16 h hf
  · refine e_icmp_eq (pc := 2) (tgt := 16) C dX11_force_2 (by decide) (fun q => absurd q c8) (fun _ => ?_)
    refine e_aload_n (pc := 5) C dX11_force_5 0 rfl rfl ?_
    refine e_iload_n (pc := 6) C dX11_force_6 1 rfl rfl ?_
    obtain ⟨t9, hf⟩ := ck_e hf
    obtain ⟨r12, h10, y11, hf⟩ := cb_e hf
    refine e_callVi (pc := 7) (st := []) 11 C (ct_X11_hasLaw y11) dX11_force_7 (by decide) t9 g899 g901 g23 g146 g902 hd_X11_hasLaw rfl ⟨Nat.le_of_ble_eq_true rfl, Nat.le_of_ble_eq_true rfl⟩ ⟨Nat.le_of_ble_eq_true rfl, Nat.le_of_ble_eq_true rfl⟩ rfl (Nat.le_of_ble_eq_true rfl) ?_
    rcases it_e hf with ⟨c13, hf⟩ | ⟨c13, hf⟩
    · refine e_if_ne (pc := 10) (tgt := 16) C dX11_force_10 (by decide) (fun q => absurd c13 q) (fun _ => ?_)
      refine e_bipush (v := (-2 : Int32)) (pc := 13) C dX11_force_13 (by decide) ?_
      obtain rfl := so_e hf
      exact e_iret (pc := 15) C hr dX11_force_15 (Nat.le_of_ble_eq_true rfl) (Nat.le_of_ble_eq_true rfl)
    · refine e_if_ne (pc := 10) (tgt := 16) C dX11_force_10 (by decide) (fun _ => ?_) (fun q => absurd q c13)
      exact W_16 h10 hf
theorem dX0_isAboard_0 : decode cX0_isAboard 0 = .ok (.aload_n 0, 1) := by decide +kernel
theorem dX0_isAboard_1 : decode cX0_isAboard 1 = .ok (.getfield 41, 3) := by decide +kernel
theorem dX0_isAboard_4 : decode cX0_isAboard 4 = .ok (.iload_n 1, 1) := by decide +kernel
theorem dX0_isAboard_5 : decode cX0_isAboard 5 = .ok (.invokevirtual 83, 3) := by decide +kernel
theorem dX0_isAboard_8 : decode cX0_isAboard 8 = .ok (.ifCond .eq 45, 3) := by decide +kernel
theorem dX0_isAboard_11 : decode cX0_isAboard 11 = .ok (.aload_n 0, 1) := by decide +kernel
theorem dX0_isAboard_12 : decode cX0_isAboard 12 = .ok (.getfield 41, 3) := by decide +kernel
theorem dX0_isAboard_15 : decode cX0_isAboard 15 = .ok (.getfield 65, 3) := by decide +kernel
theorem dX0_isAboard_18 : decode cX0_isAboard 18 = .ok (.iload_n 1, 1) := by decide +kernel
theorem dX0_isAboard_19 : decode cX0_isAboard 19 = .ok (.aaload, 1) := by decide +kernel
theorem dX0_isAboard_20 : decode cX0_isAboard 20 = .ok (.getfield 87, 3) := by decide +kernel
theorem dX0_isAboard_23 : decode cX0_isAboard 23 = .ok (.aload_n 0, 1) := by decide +kernel
theorem dX0_isAboard_24 : decode cX0_isAboard 24 = .ok (.getfield 22, 3) := by decide +kernel
theorem dX0_isAboard_27 : decode cX0_isAboard 27 = .ok (.if_icmp .gt 26, 3) := by decide +kernel
theorem dX0_isAboard_30 : decode cX0_isAboard 30 = .ok (.aload_n 0, 1) := by decide +kernel
theorem dX0_isAboard_31 : decode cX0_isAboard 31 = .ok (.getfield 22, 3) := by decide +kernel
theorem dX0_isAboard_34 : decode cX0_isAboard 34 = .ok (.aload_n 0, 1) := by decide +kernel
theorem dX0_isAboard_35 : decode cX0_isAboard 35 = .ok (.getfield 41, 3) := by decide +kernel
theorem dX0_isAboard_38 : decode cX0_isAboard 38 = .ok (.getfield 65, 3) := by decide +kernel
theorem dX0_isAboard_41 : decode cX0_isAboard 41 = .ok (.iload_n 1, 1) := by decide +kernel
theorem dX0_isAboard_42 : decode cX0_isAboard 42 = .ok (.aaload, 1) := by decide +kernel
theorem dX0_isAboard_43 : decode cX0_isAboard 43 = .ok (.getfield 90, 3) := by decide +kernel
theorem dX0_isAboard_46 : decode cX0_isAboard 46 = .ok (.if_icmp .ge 7, 3) := by decide +kernel
theorem dX0_isAboard_49 : decode cX0_isAboard 49 = .ok (.iconst 1, 1) := by decide +kernel
theorem dX0_isAboard_50 : decode cX0_isAboard 50 = .ok (.goto 4, 3) := by decide +kernel
theorem dX0_isAboard_53 : decode cX0_isAboard 53 = .ok (.iconst 0, 1) := by decide +kernel
theorem dX0_isAboard_54 : decode cX0_isAboard 54 = .ok (.ireturn, 1) := by decide +kernel
noncomputable def f_X0_isAboard (G : GG) (v0 : Nat) (v1 : Int32) (h : AH) : Option (Int32 × AH) :=
ck (m_t h v0 = .inl 0) <|
ob (m_r h v0 0) fun b2 =>
ck (m_t h b2 = .inl 9) <|
cb (f_X9_hasPerson G b2 v1 h) fun r6 h4 =>
if r6 = 0 then (some ((0 : Int32), h4)) else
ck (m_t h4 v0 = .inl 0) <|
ob (m_r h4 v0 0) fun b9 =>
ck (m_t h4 b9 = .inl 9) <|
ob (m_r h4 b9 6) fun b11 =>
ck (ixb h4 b11 (.object RX5) v1 = true) <|
ob (m_r h4 b11 v1.toNatClampNeg) fun b14 =>
ck (m_t h4 b14 = .inl 5) <|
if (m_i h4 v0 4) < (m_i h4 b14 1) then (some ((0 : Int32), h4)) else
ob (m_r h4 v0 0) fun b17 =>
ck (m_t h4 b17 = .inl 9) <|
ob (m_r h4 b17 6) fun b19 =>
ck (ixb h4 b19 (.object RX5) v1 = true) <|
ob (m_r h4 b19 v1.toNatClampNeg) fun b22 =>
ck (m_t h4 b22 = .inl 5) <|
if (m_i h4 b22 2) ≤ (m_i h4 v0 4) then (some ((0 : Int32), h4)) else
some ((1 : Int32), h4)
set_option maxHeartbeats 4000000 in
set_option maxRecDepth 100000 in
theorem ct_X0_isAboard {G : GG} {l : Launch} {v0 : Nat} {v1 : Int32} {h : AH} {y : Int32 × AH} (hf : f_X0_isAboard G v0 v1 h = some y) : Ct G l yX0_isAboard cX0_isAboard 2 (some .boolean) 1 21 0 0 [.ref v0, .int v1] h (some (.int y.1), y.2) := by
  refine ct_of (by decide) (Nat.le_of_ble_eq_true rfl) ?_
  intro p e s m args below meth c C hm hr hin
  have C : Cx G cX0_isAboard RX0 p s m args meth c := C
  refine e_lv (lv2 := [(0, .ref v0), (1, .int v1)]) [0, 1] rfl ?_
  unfold f_X0_isAboard at hf
  refine e_aload_n (pc := 0) C dX0_isAboard_0 0 rfl rfl ?_
  obtain ⟨t1, hf⟩ := ck_e hf
  refine e_getr (pc := 1) 0 0 C dX0_isAboard_1 (by decide) (by decide) g393 rfl t1 ?_
  obtain ⟨b2, eb2, hf⟩ := ob_e hf
  refine e_rf eb2 ?_
  refine e_iload_n (pc := 4) C dX0_isAboard_4 1 rfl rfl ?_
  obtain ⟨t3, hf⟩ := ck_e hf
  obtain ⟨r6, h4, y5, hf⟩ := cb_e hf
  refine e_callVi (pc := 5) (st := []) 9 C (ct_X9_hasPerson y5) dX0_isAboard_5 (by decide) t3 g912 g753 g754 g152 g755 hd_X9_hasPerson rfl ⟨Nat.le_of_ble_eq_true rfl, Nat.le_of_ble_eq_true rfl⟩ ⟨Nat.le_of_ble_eq_true rfl, Nat.le_of_ble_eq_true rfl⟩ rfl (Nat.le_of_ble_eq_true rfl) ?_
  rcases it_e hf with ⟨c7, hf⟩ | ⟨c7, hf⟩
  · refine e_if_eq (pc := 8) (tgt := 53) C dX0_isAboard_8 (by decide) (fun _ => ?_) (fun q => absurd c7 q)
    refine e_iconst (v := (0 : Int32)) (pc := 53) C dX0_isAboard_53 (by decide) ?_
    obtain rfl := so_e hf
    exact e_zret (pc := 54) (v := (0 : Int32)) C hr (nz_ok (by decide)) dX0_isAboard_54 (Nat.le_of_ble_eq_true rfl) (Nat.le_of_ble_eq_true rfl)
  · refine e_if_eq (pc := 8) (tgt := 53) C dX0_isAboard_8 (by decide) (fun q => absurd q c7) (fun _ => ?_)
    refine e_aload_n (pc := 11) C dX0_isAboard_11 0 rfl rfl ?_
    obtain ⟨t8, hf⟩ := ck_e hf
    refine e_getr (pc := 12) 0 0 C dX0_isAboard_12 (by decide) (by decide) g393 rfl t8 ?_
    obtain ⟨b9, eb9, hf⟩ := ob_e hf
    refine e_rf eb9 ?_
    obtain ⟨t10, hf⟩ := ck_e hf
    refine e_getrN (pc := 15) 9 6 C dX0_isAboard_15 (by decide) (by decide) g340 rfl t10 ?_
    obtain ⟨b11, eb11, hf⟩ := ob_e hf
    refine e_rf eb11 ?_
    refine e_iload_n (pc := 18) C dX0_isAboard_18 1 rfl rfl ?_
    obtain ⟨q12, hf⟩ := ck_e hf
    obtain ⟨n13, tn13, in13⟩ := ix_e q12
    refine e_aald (pc := 19) 4 rfl C dX0_isAboard_19 tn13 in13 ?_
    obtain ⟨b14, eb14, hf⟩ := ob_e hf
    refine e_rf eb14 ?_
    obtain ⟨t15, hf⟩ := ck_e hf
    refine e_getiN (pc := 20) 5 1 C dX0_isAboard_20 (by decide) (by decide) g276 rfl t15 ?_
    refine e_aload_n (pc := 23) C dX0_isAboard_23 0 rfl rfl ?_
    refine e_geti (pc := 24) 0 4 C dX0_isAboard_24 (by decide) (by decide) g412 rfl t8 ?_
    rcases it_e hf with ⟨c16, hf⟩ | ⟨c16, hf⟩
    · refine e_icmp_gt (pc := 27) (tgt := 53) C dX0_isAboard_27 (by decide) (fun _ => ?_) (fun q => absurd c16 q)
      refine e_iconst (v := (0 : Int32)) (pc := 53) C dX0_isAboard_53 (by decide) ?_
      obtain rfl := so_e hf
      exact e_zret (pc := 54) (v := (0 : Int32)) C hr (nz_ok (by decide)) dX0_isAboard_54 (Nat.le_of_ble_eq_true rfl) (Nat.le_of_ble_eq_true rfl)
    · refine e_icmp_gt (pc := 27) (tgt := 53) C dX0_isAboard_27 (by decide) (fun q => absurd q c16) (fun _ => ?_)
      refine e_aload_n (pc := 30) C dX0_isAboard_30 0 rfl rfl ?_
      refine e_geti (pc := 31) 0 4 C dX0_isAboard_31 (by decide) (by decide) g412 rfl t8 ?_
      refine e_aload_n (pc := 34) C dX0_isAboard_34 0 rfl rfl ?_
      refine e_getr (pc := 35) 0 0 C dX0_isAboard_35 (by decide) (by decide) g393 rfl t8 ?_
      obtain ⟨b17, eb17, hf⟩ := ob_e hf
      refine e_rf eb17 ?_
      obtain ⟨t18, hf⟩ := ck_e hf
      refine e_getrN (pc := 38) 9 6 C dX0_isAboard_38 (by decide) (by decide) g340 rfl t18 ?_
      obtain ⟨b19, eb19, hf⟩ := ob_e hf
      refine e_rf eb19 ?_
      refine e_iload_n (pc := 41) C dX0_isAboard_41 1 rfl rfl ?_
      obtain ⟨q20, hf⟩ := ck_e hf
      obtain ⟨n21, tn21, in21⟩ := ix_e q20
      refine e_aald (pc := 42) 4 rfl C dX0_isAboard_42 tn21 in21 ?_
      obtain ⟨b22, eb22, hf⟩ := ob_e hf
      refine e_rf eb22 ?_
      obtain ⟨t23, hf⟩ := ck_e hf
      refine e_getiN (pc := 43) 5 2 C dX0_isAboard_43 (by decide) (by decide) g279 rfl t23 ?_
      rcases it_e hf with ⟨c24, hf⟩ | ⟨c24, hf⟩
      · refine e_icmp_ge (pc := 46) (tgt := 53) C dX0_isAboard_46 (by decide) (fun _ => ?_) (fun q => absurd c24 q)
        refine e_iconst (v := (0 : Int32)) (pc := 53) C dX0_isAboard_53 (by decide) ?_
        obtain rfl := so_e hf
        exact e_zret (pc := 54) (v := (0 : Int32)) C hr (nz_ok (by decide)) dX0_isAboard_54 (Nat.le_of_ble_eq_true rfl) (Nat.le_of_ble_eq_true rfl)
      · refine e_icmp_ge (pc := 46) (tgt := 53) C dX0_isAboard_46 (by decide) (fun q => absurd q c24) (fun _ => ?_)
        refine e_iconst (v := (1 : Int32)) (pc := 49) C dX0_isAboard_49 (by decide) ?_
        refine e_goto (pc := 50) (tgt := 54) C dX0_isAboard_50 (by decide) ?_
        obtain rfl := so_e hf
        exact e_zret (pc := 54) (v := (1 : Int32)) C hr (nz_ok (by decide)) dX0_isAboard_54 (Nat.le_of_ble_eq_true rfl) (Nat.le_of_ble_eq_true rfl)
theorem dX11_airPerHole_0 : decode cX11_airPerHole 0 = .ok (.iload_n 0, 1) := by decide +kernel
theorem dX11_airPerHole_1 : decode cX11_airPerHole 1 = .ok (.ifCond .ge 5, 3) := by decide +kernel
theorem dX11_airPerHole_4 : decode cX11_airPerHole 4 = .ok (.iconst 0, 1) := by decide +kernel
theorem dX11_airPerHole_5 : decode cX11_airPerHole 5 = .ok (.ireturn, 1) := by decide +kernel
theorem dX11_airPerHole_6 : decode cX11_airPerHole 6 = .ok (.iload_n 0, 1) := by decide +kernel
theorem dX11_airPerHole_7 : decode cX11_airPerHole 7 = .ok (.iconst 4, 1) := by decide +kernel
theorem dX11_airPerHole_8 : decode cX11_airPerHole 8 = .ok (.if_icmp .ge 9, 3) := by decide +kernel
theorem dX11_airPerHole_11 : decode cX11_airPerHole 11 = .ok (.iconst 4, 1) := by decide +kernel
theorem dX11_airPerHole_12 : decode cX11_airPerHole 12 = .ok (.iload_n 0, 1) := by decide +kernel
theorem dX11_airPerHole_13 : decode cX11_airPerHole 13 = .ok (.isub, 1) := by decide +kernel
theorem dX11_airPerHole_14 : decode cX11_airPerHole 14 = .ok (.goto 7, 3) := by decide +kernel
theorem dX11_airPerHole_17 : decode cX11_airPerHole 17 = .ok (.bipush 7, 2) := by decide +kernel
theorem dX11_airPerHole_19 : decode cX11_airPerHole 19 = .ok (.iload_n 0, 1) := by decide +kernel
theorem dX11_airPerHole_20 : decode cX11_airPerHole 20 = .ok (.isub, 1) := by decide +kernel
theorem dX11_airPerHole_21 : decode cX11_airPerHole 21 = .ok (.ireturn, 1) := by decide +kernel
noncomputable def f_X11_airPerHole (G : GG) (v0 : Int32) (h : AH) : Option (Int32 × AH) :=
if 0 ≤ v0 then (if (4 : Int32) ≤ v0 then (some ((7 : Int32) - v0, h)) else
some ((4 : Int32) - v0, h)) else
some ((0 : Int32), h)
set_option maxHeartbeats 4000000 in
set_option maxRecDepth 100000 in
theorem ct_X11_airPerHole {G : GG} {l : Launch} {v0 : Int32} {h : AH} {y : Int32 × AH} (hf : f_X11_airPerHole G v0 h = some y) : Ct G l yX11_airPerHole cX11_airPerHole 1 (some .int) 0 0 0 0 [.int v0] h (some (.int y.1), y.2) := by
  refine ct_of (by decide) (Nat.le_of_ble_eq_true rfl) ?_
  intro p e s m args below meth c C hm hr hin
  have C : Cx G cX11_airPerHole RX11 p s m args meth c := C
  refine e_lv (lv2 := [(0, .int v0)]) [0] rfl ?_
  unfold f_X11_airPerHole at hf
  refine e_iload_n (pc := 0) C dX11_airPerHole_0 0 rfl rfl ?_
  rcases it_e hf with ⟨c1, hf⟩ | ⟨c1, hf⟩
  · refine e_if_ge (pc := 1) (tgt := 6) C dX11_airPerHole_1 (by decide) (fun _ => ?_) (fun q => absurd c1 q)
    refine e_iload_n (pc := 6) C dX11_airPerHole_6 0 rfl rfl ?_
    refine e_iconst (v := (4 : Int32)) (pc := 7) C dX11_airPerHole_7 (by decide) ?_
    rcases it_e hf with ⟨c2, hf⟩ | ⟨c2, hf⟩
    · refine e_icmp_ge (pc := 8) (tgt := 17) C dX11_airPerHole_8 (by decide) (fun _ => ?_) (fun q => absurd c2 q)
      refine e_bipush (v := (7 : Int32)) (pc := 17) C dX11_airPerHole_17 (by decide) ?_
      refine e_iload_n (pc := 19) C dX11_airPerHole_19 0 rfl rfl ?_
      refine e_isub (pc := 20) C dX11_airPerHole_20 ?_
      obtain rfl := so_e hf
      exact e_iret (pc := 21) C hr dX11_airPerHole_21 (Nat.le_of_ble_eq_true rfl) (Nat.le_of_ble_eq_true rfl)
    · refine e_icmp_ge (pc := 8) (tgt := 17) C dX11_airPerHole_8 (by decide) (fun q => absurd q c2) (fun _ => ?_)
      refine e_iconst (v := (4 : Int32)) (pc := 11) C dX11_airPerHole_11 (by decide) ?_
      refine e_iload_n (pc := 12) C dX11_airPerHole_12 0 rfl rfl ?_
      refine e_isub (pc := 13) C dX11_airPerHole_13 ?_
      refine e_goto (pc := 14) (tgt := 21) C dX11_airPerHole_14 (by decide) ?_
      obtain rfl := so_e hf
      exact e_iret (pc := 21) C hr dX11_airPerHole_21 (Nat.le_of_ble_eq_true rfl) (Nat.le_of_ble_eq_true rfl)
  · refine e_if_ge (pc := 1) (tgt := 6) C dX11_airPerHole_1 (by decide) (fun q => absurd q c1) (fun _ => ?_)
    refine e_iconst (v := (0 : Int32)) (pc := 4) C dX11_airPerHole_4 (by decide) ?_
    obtain rfl := so_e hf
    exact e_iret (pc := 5) C hr dX11_airPerHole_5 (Nat.le_of_ble_eq_true rfl) (Nat.le_of_ble_eq_true rfl)
theorem dX0_wantOf_0 : decode cX0_wantOf 0 = .ok (.aload_n 0, 1) := by decide +kernel
theorem dX0_wantOf_1 : decode cX0_wantOf 1 = .ok (.getfield 28, 3) := by decide +kernel
theorem dX0_wantOf_4 : decode cX0_wantOf 4 = .ok (.iload_n 1, 1) := by decide +kernel
theorem dX0_wantOf_5 : decode cX0_wantOf 5 = .ok (.iaload, 1) := by decide +kernel
theorem dX0_wantOf_6 : decode cX0_wantOf 6 = .ok (.invokestatic 96, 3) := by decide +kernel
theorem dX0_wantOf_9 : decode cX0_wantOf 9 = .ok (.istore_n 2, 1) := by decide +kernel
theorem dX0_wantOf_10 : decode cX0_wantOf 10 = .ok (.aload_n 0, 1) := by decide +kernel
theorem dX0_wantOf_11 : decode cX0_wantOf 11 = .ok (.getfield 41, 3) := by decide +kernel
theorem dX0_wantOf_14 : decode cX0_wantOf 14 = .ok (.getfield 65, 3) := by decide +kernel
theorem dX0_wantOf_17 : decode cX0_wantOf 17 = .ok (.iload_n 1, 1) := by decide +kernel
theorem dX0_wantOf_18 : decode cX0_wantOf 18 = .ok (.aaload, 1) := by decide +kernel
theorem dX0_wantOf_19 : decode cX0_wantOf 19 = .ok (.getfield 99, 3) := by decide +kernel
theorem dX0_wantOf_22 : decode cX0_wantOf 22 = .ok (.aload_n 0, 1) := by decide +kernel
theorem dX0_wantOf_23 : decode cX0_wantOf 23 = .ok (.getfield 38, 3) := by decide +kernel
theorem dX0_wantOf_26 : decode cX0_wantOf 26 = .ok (.iload_n 1, 1) := by decide +kernel
theorem dX0_wantOf_27 : decode cX0_wantOf 27 = .ok (.iaload, 1) := by decide +kernel
theorem dX0_wantOf_28 : decode cX0_wantOf 28 = .ok (.iadd, 1) := by decide +kernel
theorem dX0_wantOf_29 : decode cX0_wantOf 29 = .ok (.istore_n 3, 1) := by decide +kernel
theorem dX0_wantOf_30 : decode cX0_wantOf 30 = .ok (.iload_n 2, 1) := by decide +kernel
theorem dX0_wantOf_31 : decode cX0_wantOf 31 = .ok (.ifCond .le 7, 3) := by decide +kernel
theorem dX0_wantOf_34 : decode cX0_wantOf 34 = .ok (.iload_n 3, 1) := by decide +kernel
theorem dX0_wantOf_35 : decode cX0_wantOf 35 = .ok (.ifCond .gt 5, 3) := by decide +kernel
theorem dX0_wantOf_38 : decode cX0_wantOf 38 = .ok (.iconst 0, 1) := by decide +kernel
theorem dX0_wantOf_39 : decode cX0_wantOf 39 = .ok (.ireturn, 1) := by decide +kernel
theorem dX0_wantOf_40 : decode cX0_wantOf 40 = .ok (.iload_n 3, 1) := by decide +kernel
theorem dX0_wantOf_41 : decode cX0_wantOf 41 = .ok (.iload_n 2, 1) := by decide +kernel
theorem dX0_wantOf_42 : decode cX0_wantOf 42 = .ok (.idiv, 1) := by decide +kernel
theorem dX0_wantOf_43 : decode cX0_wantOf 43 = .ok (.istore 4, 2) := by decide +kernel
theorem dX0_wantOf_45 : decode cX0_wantOf 45 = .ok (.iconst 2, 1) := by decide +kernel
theorem dX0_wantOf_46 : decode cX0_wantOf 46 = .ok (.iload_n 3, 1) := by decide +kernel
theorem dX0_wantOf_47 : decode cX0_wantOf 47 = .ok (.iload_n 2, 1) := by decide +kernel
theorem dX0_wantOf_48 : decode cX0_wantOf 48 = .ok (.irem, 1) := by decide +kernel
theorem dX0_wantOf_49 : decode cX0_wantOf 49 = .ok (.imul, 1) := by decide +kernel
theorem dX0_wantOf_50 : decode cX0_wantOf 50 = .ok (.iload_n 2, 1) := by decide +kernel
theorem dX0_wantOf_51 : decode cX0_wantOf 51 = .ok (.if_icmp .le 10, 3) := by decide +kernel
theorem dX0_wantOf_54 : decode cX0_wantOf 54 = .ok (.iload 4, 2) := by decide +kernel
theorem dX0_wantOf_56 : decode cX0_wantOf 56 = .ok (.iconst 1, 1) := by decide +kernel
theorem dX0_wantOf_57 : decode cX0_wantOf 57 = .ok (.iadd, 1) := by decide +kernel
theorem dX0_wantOf_58 : decode cX0_wantOf 58 = .ok (.goto 5, 3) := by decide +kernel
theorem dX0_wantOf_61 : decode cX0_wantOf 61 = .ok (.iload 4, 2) := by decide +kernel
theorem dX0_wantOf_63 : decode cX0_wantOf 63 = .ok (.istore 5, 2) := by decide +kernel
theorem dX0_wantOf_65 : decode cX0_wantOf 65 = .ok (.iconst 5, 1) := by decide +kernel
theorem dX0_wantOf_66 : decode cX0_wantOf 66 = .ok (.iload 5, 2) := by decide +kernel
theorem dX0_wantOf_68 : decode cX0_wantOf 68 = .ok (.invokestatic 102, 3) := by decide +kernel
theorem dX0_wantOf_71 : decode cX0_wantOf 71 = .ok (.ireturn, 1) := by decide +kernel
noncomputable def f_X0_wantOf (G : GG) (v0 : Nat) (v1 : Int32) (h : AH) : Option (Int32 × AH) :=
ck (m_t h v0 = .inl 0) <|
ob (m_r h v0 6) fun b2 =>
ck (ixb h b2 .int v1 = true) <|
cb (f_X11_airPerHole G (m_i h b2 v1.toNatClampNeg) h) fun r7 h5 =>
ck (m_t h5 v0 = .inl 0) <|
ob (m_r h5 v0 0) fun b9 =>
ck (m_t h5 b9 = .inl 9) <|
ob (m_r h5 b9 6) fun b11 =>
ck (ixb h5 b11 (.object RX5) v1 = true) <|
ob (m_r h5 b11 v1.toNatClampNeg) fun b14 =>
ck (m_t h5 b14 = .inl 5) <|
ob (m_r h5 v0 9) fun b16 =>
ck (ixb h5 b16 .int v1 = true) <|
nn ((m_i h5 b14 4) + (m_i h5 b16 v1.toNatClampNeg)) fun x19 =>
if r7 ≤ 0 then (some ((0 : Int32), h5)) else
if 0 < x19 then (ck (¬ r7 = 0) <|
nn (x19 / r7) fun x23 =>
ck (¬ r7 = 0) <|
nn (fun (s0_63 : Int32) => (nn (if s0_63 < (5 : Int32) then s0_63 else (5 : Int32)) fun x25 =>
some (x25, h5))) fun j_63 =>
if ((2 : Int32) * (x19 - x19 / r7 * r7)) ≤ r7 then (j_63 x23) else
j_63 (x23 + (1 : Int32))) else
some ((0 : Int32), h5)
set_option maxHeartbeats 4000000 in
set_option maxRecDepth 100000 in
theorem ct_X0_wantOf {G : GG} {l : Launch} {v0 : Nat} {v1 : Int32} {h : AH} {y : Int32 × AH} (hf : f_X0_wantOf G v0 v1 h = some y) : Ct G l yX0_wantOf cX0_wantOf 6 (some .int) 1 24 0 0 [.ref v0, .int v1] h (some (.int y.1), y.2) := by
  refine ct_of (by decide) (Nat.le_of_ble_eq_true rfl) ?_
  intro p e s m args below meth c C hm hr hin
  have C : Cx G cX0_wantOf RX0 p s m args meth c := C
  refine e_lv (lv2 := [(0, .ref v0), (1, .int v1)]) [0, 1] rfl ?_
  unfold f_X0_wantOf at hf
  refine e_aload_n (pc := 0) C dX0_wantOf_0 0 rfl rfl ?_
  obtain ⟨t1, hf⟩ := ck_e hf
  refine e_getr (pc := 1) 0 6 C dX0_wantOf_1 (by decide) (by decide) g421 rfl t1 ?_
  obtain ⟨b2, eb2, hf⟩ := ob_e hf
  refine e_rf eb2 ?_
  refine e_iload_n (pc := 4) C dX0_wantOf_4 1 rfl rfl ?_
  obtain ⟨q3, hf⟩ := ck_e hf
  obtain ⟨n4, tn4, in4⟩ := ix_e q3
  refine e_iald (pc := 5) C dX0_wantOf_5 tn4 in4 ?_
  obtain ⟨r7, h5, y6, hf⟩ := cb_e hf
  refine e_callSNi (pc := 6) (st := []) C (ct_X11_airPerHole y6) dX0_wantOf_6 g917 g918 g146 g919 hd_X11_airPerHole rfl ⟨Nat.le_of_ble_eq_true rfl, Nat.le_of_ble_eq_true rfl⟩ ⟨Nat.le_of_ble_eq_true rfl, Nat.le_of_ble_eq_true rfl⟩ rfl (Nat.le_of_ble_eq_true rfl) ?_
  refine e_istore_n (pc := 9) (lv2 := [(2, .int r7), (0, .ref v0), (1, .int v1)]) C hm dX0_wantOf_9 rfl (by decide) rfl ?_
  refine e_aload_n (pc := 10) C dX0_wantOf_10 1 rfl rfl ?_
  obtain ⟨t8, hf⟩ := ck_e hf
  refine e_getr (pc := 11) 0 0 C dX0_wantOf_11 (by decide) (by decide) g393 rfl t8 ?_
  obtain ⟨b9, eb9, hf⟩ := ob_e hf
  refine e_rf eb9 ?_
  obtain ⟨t10, hf⟩ := ck_e hf
  refine e_getrN (pc := 14) 9 6 C dX0_wantOf_14 (by decide) (by decide) g340 rfl t10 ?_
  obtain ⟨b11, eb11, hf⟩ := ob_e hf
  refine e_rf eb11 ?_
  refine e_iload_n (pc := 17) C dX0_wantOf_17 2 rfl rfl ?_
  obtain ⟨q12, hf⟩ := ck_e hf
  obtain ⟨n13, tn13, in13⟩ := ix_e q12
  refine e_aald (pc := 18) 4 rfl C dX0_wantOf_18 tn13 in13 ?_
  obtain ⟨b14, eb14, hf⟩ := ob_e hf
  refine e_rf eb14 ?_
  obtain ⟨t15, hf⟩ := ck_e hf
  refine e_getiN (pc := 19) 5 4 C dX0_wantOf_19 (by decide) (by decide) g289 rfl t15 ?_
  refine e_aload_n (pc := 22) C dX0_wantOf_22 1 rfl rfl ?_
  refine e_getr (pc := 23) 0 9 C dX0_wantOf_23 (by decide) (by decide) g430 rfl t8 ?_
  obtain ⟨b16, eb16, hf⟩ := ob_e hf
  refine e_rf eb16 ?_
  refine e_iload_n (pc := 26) C dX0_wantOf_26 2 rfl rfl ?_
  obtain ⟨q17, hf⟩ := ck_e hf
  obtain ⟨n18, tn18, in18⟩ := ix_e q17
  refine e_iald (pc := 27) C dX0_wantOf_27 tn18 in18 ?_
  refine e_iadd (pc := 28) C dX0_wantOf_28 ?_
  obtain ⟨x19, ex19, hf⟩ := nn_e hf
  refine e_topi ex19 ?_
  refine e_istore_n (pc := 29) (lv2 := [(3, .int x19), (2, .int r7), (0, .ref v0), (1, .int v1)]) C hm dX0_wantOf_29 rfl (by decide) rfl ?_
  refine e_iload_n (pc := 30) C dX0_wantOf_30 1 rfl rfl ?_
  rcases it_e hf with ⟨c20, hf⟩ | ⟨c20, hf⟩
  · refine e_if_le (pc := 31) (tgt := 38) C dX0_wantOf_31 (by decide) (fun _ => ?_) (fun q => absurd c20 q)
    refine e_iconst (v := (0 : Int32)) (pc := 38) C dX0_wantOf_38 (by decide) ?_
    obtain rfl := so_e hf
    exact e_iret (pc := 39) C hr dX0_wantOf_39 (Nat.le_of_ble_eq_true rfl) (Nat.le_of_ble_eq_true rfl)
  · refine e_if_le (pc := 31) (tgt := 38) C dX0_wantOf_31 (by decide) (fun q => absurd q c20) (fun _ => ?_)
    refine e_iload_n (pc := 34) C dX0_wantOf_34 0 rfl rfl ?_
    rcases it_e hf with ⟨c21, hf⟩ | ⟨c21, hf⟩
    · refine e_if_gt (pc := 35) (tgt := 40) C dX0_wantOf_35 (by decide) (fun _ => ?_) (fun q => absurd c21 q)
      refine e_iload_n (pc := 40) C dX0_wantOf_40 0 rfl rfl ?_
      refine e_iload_n (pc := 41) C dX0_wantOf_41 1 rfl rfl ?_
      obtain ⟨q22, hf⟩ := ck_e hf
      refine e_idiv (pc := 42) C dX0_wantOf_42 q22 ?_
      obtain ⟨x23, ex23, hf⟩ := nn_e hf
      refine e_topi ex23 ?_
      refine e_istore (pc := 43) (lv2 := [(4, .int x23), (3, .int x19), (2, .int r7), (0, .ref v0), (1, .int v1)]) C hm dX0_wantOf_43 (by decide) rfl ?_
      refine e_iconst (v := (2 : Int32)) (pc := 45) C dX0_wantOf_45 (by decide) ?_
      refine e_iload_n (pc := 46) C dX0_wantOf_46 1 rfl rfl ?_
      refine e_iload_n (pc := 47) C dX0_wantOf_47 2 rfl rfl ?_
      obtain ⟨q24, hf⟩ := ck_e hf
      refine e_irem (pc := 48) C dX0_wantOf_48 q24 ?_
      refine e_imul (pc := 49) C dX0_wantOf_49 ?_
      refine e_iload_n (pc := 50) C dX0_wantOf_50 2 rfl rfl ?_
      obtain ⟨j_63, ej_63, hf⟩ := nn_e hf
      have W_63 : ∀ (s0_63 : Int32), j_63 s0_63 = some y → EE G p l e ({ frames := 1, cells := 0, slots := 0, locals := 24 } : Room) s m args below meth c (some (.int y.1), y.2) 0 0 63 [] [.int s0_63] h5 0 0 := by
        intro s0_63 hf
        rw [ej_63] at hf
        refine e_istore (pc := 63) (lv2 := [(5, .int s0_63)]) C hm dX0_wantOf_63 (by decide) rfl ?_
        refine e_iconst (v := (5 : Int32)) (pc := 65) C dX0_wantOf_65 (by decide) ?_
        refine e_iload (pc := 66) C dX0_wantOf_66 0 rfl ?_
        refine e_mmin (pc := 68) C dX0_wantOf_68 g920 g863 g164 g864 (Nat.le_of_ble_eq_true rfl) (Nat.le_of_ble_eq_true rfl) (Nat.le_of_ble_eq_true rfl) (Nat.le_of_ble_eq_true rfl) ?_
        obtain ⟨x25, ex25, hf⟩ := nn_e hf
        refine e_topi ex25 ?_
        obtain rfl := so_e hf
        exact e_iret (pc := 71) C hr dX0_wantOf_71 (Nat.le_of_ble_eq_true rfl) (Nat.le_of_ble_eq_true rfl)
      rcases it_e hf with ⟨c26, hf⟩ | ⟨c26, hf⟩
      · refine e_icmp_le (pc := 51) (tgt := 61) C dX0_wantOf_51 (by decide) (fun _ => ?_) (fun q => absurd c26 q)
        refine e_iload (pc := 61) C dX0_wantOf_61 0 rfl ?_
        refine e_lv (lv2 := []) [] rfl ?_
        exact W_63 x23 hf
      · refine e_icmp_le (pc := 51) (tgt := 61) C dX0_wantOf_51 (by decide) (fun q => absurd q c26) (fun _ => ?_)
        refine e_iload (pc := 54) C dX0_wantOf_54 0 rfl ?_
        refine e_iconst (v := (1 : Int32)) (pc := 56) C dX0_wantOf_56 (by decide) ?_
        refine e_iadd (pc := 57) C dX0_wantOf_57 ?_
        refine e_goto (pc := 58) (tgt := 63) C dX0_wantOf_58 (by decide) ?_
        refine e_lv (lv2 := []) [] rfl ?_
        exact W_63 (x23 + (1 : Int32)) hf
    · refine e_if_gt (pc := 35) (tgt := 40) C dX0_wantOf_35 (by decide) (fun q => absurd q c21) (fun _ => ?_)
      refine e_iconst (v := (0 : Int32)) (pc := 38) C dX0_wantOf_38 (by decide) ?_
      obtain rfl := so_e hf
      exact e_iret (pc := 39) C hr dX0_wantOf_39 (Nat.le_of_ble_eq_true rfl) (Nat.le_of_ble_eq_true rfl)
theorem dX11_airAt_0 : decode cX11_airAt 0 = .ok (.iload_n 0, 1) := by decide +kernel
theorem dX11_airAt_1 : decode cX11_airAt 1 = .ok (.invokestatic 396, 3) := by decide +kernel
theorem dX11_airAt_4 : decode cX11_airAt 4 = .ok (.iload_n 1, 1) := by decide +kernel
theorem dX11_airAt_5 : decode cX11_airAt 5 = .ok (.imul, 1) := by decide +kernel
theorem dX11_airAt_6 : decode cX11_airAt 6 = .ok (.ireturn, 1) := by decide +kernel
noncomputable def f_X11_airAt (G : GG) (v0 : Int32) (v1 : Int32) (h : AH) : Option (Int32 × AH) :=
cb (f_X11_airPerHole G v0 h) fun r3 h1 =>
some (r3 * v1, h1)
set_option maxHeartbeats 4000000 in
set_option maxRecDepth 100000 in
theorem ct_X11_airAt {G : GG} {l : Launch} {v0 : Int32} {v1 : Int32} {h : AH} {y : Int32 × AH} (hf : f_X11_airAt G v0 v1 h = some y) : Ct G l yX11_airAt cX11_airAt 2 (some .int) 1 20 0 0 [.int v0, .int v1] h (some (.int y.1), y.2) := by
  refine ct_of (by decide) (Nat.le_of_ble_eq_true rfl) ?_
  intro p e s m args below meth c C hm hr hin
  have C : Cx G cX11_airAt RX11 p s m args meth c := C
  refine e_lv (lv2 := [(0, .int v0), (1, .int v1)]) [0, 1] rfl ?_
  unfold f_X11_airAt at hf
  refine e_iload_n (pc := 0) C dX11_airAt_0 0 rfl rfl ?_
  obtain ⟨r3, h1, y2, hf⟩ := cb_e hf
  refine e_callSi (pc := 1) (st := []) C (ct_X11_airPerHole y2) dX11_airAt_1 g932 g918 g146 g919 hd_X11_airPerHole rfl ⟨Nat.le_of_ble_eq_true rfl, Nat.le_of_ble_eq_true rfl⟩ ⟨Nat.le_of_ble_eq_true rfl, Nat.le_of_ble_eq_true rfl⟩ rfl (Nat.le_of_ble_eq_true rfl) ?_
  refine e_iload_n (pc := 4) C dX11_airAt_4 1 rfl rfl ?_
  refine e_imul (pc := 5) C dX11_airAt_5 ?_
  obtain rfl := so_e hf
  exact e_iret (pc := 6) C hr dX11_airAt_6 (Nat.le_of_ble_eq_true rfl) (Nat.le_of_ble_eq_true rfl)
theorem dX0_unease_0 : decode cX0_unease 0 = .ok (.aload_n 0, 1) := by decide +kernel
theorem dX0_unease_1 : decode cX0_unease 1 = .ok (.getfield 41, 3) := by decide +kernel
theorem dX0_unease_4 : decode cX0_unease 4 = .ok (.getfield 65, 3) := by decide +kernel
theorem dX0_unease_7 : decode cX0_unease 7 = .ok (.iload_n 1, 1) := by decide +kernel
theorem dX0_unease_8 : decode cX0_unease 8 = .ok (.aaload, 1) := by decide +kernel
theorem dX0_unease_9 : decode cX0_unease 9 = .ok (.astore 4, 2) := by decide +kernel
theorem dX0_unease_11 : decode cX0_unease 11 = .ok (.aload_n 0, 1) := by decide +kernel
theorem dX0_unease_12 : decode cX0_unease 12 = .ok (.getfield 19, 3) := by decide +kernel
theorem dX0_unease_15 : decode cX0_unease 15 = .ok (.aload 4, 2) := by decide +kernel
theorem dX0_unease_17 : decode cX0_unease 17 = .ok (.getfield 115, 3) := by decide +kernel
theorem dX0_unease_20 : decode cX0_unease 20 = .ok (.isub, 1) := by decide +kernel
theorem dX0_unease_21 : decode cX0_unease 21 = .ok (.istore 5, 2) := by decide +kernel
theorem dX0_unease_23 : decode cX0_unease 23 = .ok (.iload_n 2, 1) := by decide +kernel
theorem dX0_unease_24 : decode cX0_unease 24 = .ok (.iload_n 3, 1) := by decide +kernel
theorem dX0_unease_25 : decode cX0_unease 25 = .ok (.invokestatic 116, 3) := by decide +kernel
theorem dX0_unease_28 : decode cX0_unease 28 = .ok (.aload 4, 2) := by decide +kernel
theorem dX0_unease_30 : decode cX0_unease 30 = .ok (.getfield 99, 3) := by decide +kernel
theorem dX0_unease_33 : decode cX0_unease 33 = .ok (.isub, 1) := by decide +kernel
theorem dX0_unease_34 : decode cX0_unease 34 = .ok (.istore 6, 2) := by decide +kernel
theorem dX0_unease_36 : decode cX0_unease 36 = .ok (.iload 5, 2) := by decide +kernel
theorem dX0_unease_38 : decode cX0_unease 38 = .ok (.iload 5, 2) := by decide +kernel
theorem dX0_unease_40 : decode cX0_unease 40 = .ok (.imul, 1) := by decide +kernel
theorem dX0_unease_41 : decode cX0_unease 41 = .ok (.iload 6, 2) := by decide +kernel
theorem dX0_unease_43 : decode cX0_unease 43 = .ok (.iload 6, 2) := by decide +kernel
theorem dX0_unease_45 : decode cX0_unease 45 = .ok (.imul, 1) := by decide +kernel
theorem dX0_unease_46 : decode cX0_unease 46 = .ok (.iadd, 1) := by decide +kernel
theorem dX0_unease_47 : decode cX0_unease 47 = .ok (.ireturn, 1) := by decide +kernel
noncomputable def f_X0_unease (G : GG) (v0 : Nat) (v1 : Int32) (v2 : Int32) (v3 : Int32) (h : AH) : Option (Int32 × AH) :=
ck (m_t h v0 = .inl 0) <|
ob (m_r h v0 0) fun b2 =>
ck (m_t h b2 = .inl 9) <|
ob (m_r h b2 6) fun b4 =>
ck (ixb h b4 (.object RX5) v1 = true) <|
ob (m_r h b4 v1.toNatClampNeg) fun b7 =>
ck (m_t h b7 = .inl 5) <|
nn ((m_i h v0 3) - (m_i h b7 3)) fun x9 =>
cb (f_X11_airAt G v2 v3 h) fun r12 h10 =>
ck (m_t h10 b7 = .inl 5) <|
nn (r12 - (m_i h10 b7 4)) fun x14 =>
some ((x9 * x9) + (x14 * x14), h10)
set_option maxHeartbeats 4000000 in
set_option maxRecDepth 100000 in
theorem ct_X0_unease {G : GG} {l : Launch} {v0 : Nat} {v1 : Int32} {v2 : Int32} {v3 : Int32} {h : AH} {y : Int32 × AH} (hf : f_X0_unease G v0 v1 v2 v3 h = some y) : Ct G l yX0_unease cX0_unease 7 (some .int) 2 41 0 0 [.ref v0, .int v1, .int v2, .int v3] h (some (.int y.1), y.2) := by
  refine ct_of (by decide) (Nat.le_of_ble_eq_true rfl) ?_
  intro p e s m args below meth c C hm hr hin
  have C : Cx G cX0_unease RX0 p s m args meth c := C
  refine e_lv (lv2 := [(0, .ref v0), (1, .int v1), (2, .int v2), (3, .int v3)]) [0, 1, 2, 3] rfl ?_
  unfold f_X0_unease at hf
  refine e_aload_n (pc := 0) C dX0_unease_0 0 rfl rfl ?_
  obtain ⟨t1, hf⟩ := ck_e hf
  refine e_getr (pc := 1) 0 0 C dX0_unease_1 (by decide) (by decide) g393 rfl t1 ?_
  obtain ⟨b2, eb2, hf⟩ := ob_e hf
  refine e_rf eb2 ?_
  obtain ⟨t3, hf⟩ := ck_e hf
  refine e_getrN (pc := 4) 9 6 C dX0_unease_4 (by decide) (by decide) g340 rfl t3 ?_
  obtain ⟨b4, eb4, hf⟩ := ob_e hf
  refine e_rf eb4 ?_
  refine e_iload_n (pc := 7) C dX0_unease_7 1 rfl rfl ?_
  obtain ⟨q5, hf⟩ := ck_e hf
  obtain ⟨n6, tn6, in6⟩ := ix_e q5
  refine e_aald (pc := 8) 4 rfl C dX0_unease_8 tn6 in6 ?_
  obtain ⟨b7, eb7, hf⟩ := ob_e hf
  refine e_rf eb7 ?_
  refine e_astore (pc := 9) (lv2 := [(4, .ref b7), (0, .ref v0), (1, .int v1), (2, .int v2), (3, .int v3)]) C hm dX0_unease_9 (by decide) rfl ?_
  refine e_aload_n (pc := 11) C dX0_unease_11 1 rfl rfl ?_
  refine e_geti (pc := 12) 0 3 C dX0_unease_12 (by decide) (by decide) g407 rfl t1 ?_
  refine e_aload (pc := 15) C dX0_unease_15 0 rfl ?_
  obtain ⟨t8, hf⟩ := ck_e hf
  refine e_getiN (pc := 17) 5 3 C dX0_unease_17 (by decide) (by decide) g285 rfl t8 ?_
  refine e_isub (pc := 20) C dX0_unease_20 ?_
  obtain ⟨x9, ex9, hf⟩ := nn_e hf
  refine e_topi ex9 ?_
  refine e_istore (pc := 21) (lv2 := [(5, .int x9), (4, .ref b7), (0, .ref v0), (1, .int v1), (2, .int v2), (3, .int v3)]) C hm dX0_unease_21 (by decide) rfl ?_
  refine e_iload_n (pc := 23) C dX0_unease_23 4 rfl rfl ?_
  refine e_iload_n (pc := 24) C dX0_unease_24 5 rfl rfl ?_
  obtain ⟨r12, h10, y11, hf⟩ := cb_e hf
  refine e_callSNi (pc := 25) (st := []) C (ct_X11_airAt y11) dX0_unease_25 g929 g930 g146 g931 hd_X11_airAt rfl ⟨Nat.le_of_ble_eq_true rfl, Nat.le_of_ble_eq_true rfl⟩ ⟨Nat.le_of_ble_eq_true rfl, Nat.le_of_ble_eq_true rfl⟩ rfl (Nat.le_of_ble_eq_true rfl) ?_
  refine e_aload (pc := 28) C dX0_unease_28 1 rfl ?_
  obtain ⟨t13, hf⟩ := ck_e hf
  refine e_getiN (pc := 30) 5 4 C dX0_unease_30 (by decide) (by decide) g289 rfl t13 ?_
  refine e_isub (pc := 33) C dX0_unease_33 ?_
  obtain ⟨x14, ex14, hf⟩ := nn_e hf
  refine e_topi ex14 ?_
  refine e_istore (pc := 34) (lv2 := [(6, .int x14), (5, .int x9), (4, .ref b7), (0, .ref v0), (1, .int v1), (2, .int v2), (3, .int v3)]) C hm dX0_unease_34 (by decide) rfl ?_
  refine e_iload (pc := 36) C dX0_unease_36 1 rfl ?_
  refine e_iload (pc := 38) C dX0_unease_38 1 rfl ?_
  refine e_imul (pc := 40) C dX0_unease_40 ?_
  refine e_iload (pc := 41) C dX0_unease_41 0 rfl ?_
  refine e_iload (pc := 43) C dX0_unease_43 0 rfl ?_
  refine e_imul (pc := 45) C dX0_unease_45 ?_
  refine e_iadd (pc := 46) C dX0_unease_46 ?_
  obtain rfl := so_e hf
  exact e_iret (pc := 47) C hr dX0_unease_47 (Nat.le_of_ble_eq_true rfl) (Nat.le_of_ble_eq_true rfl)
theorem dX0_tollFor_0 : decode cX0_tollFor 0 = .ok (.aload_n 0, 1) := by decide +kernel
theorem dX0_tollFor_1 : decode cX0_tollFor 1 = .ok (.getfield 41, 3) := by decide +kernel
theorem dX0_tollFor_4 : decode cX0_tollFor 4 = .ok (.aload_n 0, 1) := by decide +kernel
theorem dX0_tollFor_5 : decode cX0_tollFor 5 = .ok (.getfield 22, 3) := by decide +kernel
theorem dX0_tollFor_8 : decode cX0_tollFor 8 = .ok (.invokevirtual 119, 3) := by decide +kernel
theorem dX0_tollFor_11 : decode cX0_tollFor 11 = .ok (.ifCond .eq 10, 3) := by decide +kernel
theorem dX0_tollFor_14 : decode cX0_tollFor 14 = .ok (.bipush 9, 2) := by decide +kernel
theorem dX0_tollFor_16 : decode cX0_tollFor 16 = .ok (.iload_n 1, 1) := by decide +kernel
theorem dX0_tollFor_17 : decode cX0_tollFor 17 = .ok (.imul, 1) := by decide +kernel
theorem dX0_tollFor_18 : decode cX0_tollFor 18 = .ok (.goto 4, 3) := by decide +kernel
theorem dX0_tollFor_21 : decode cX0_tollFor 21 = .ok (.iconst 0, 1) := by decide +kernel
theorem dX0_tollFor_22 : decode cX0_tollFor 22 = .ok (.ireturn, 1) := by decide +kernel
noncomputable def f_X0_tollFor (G : GG) (v0 : Nat) (v1 : Int32) (h : AH) : Option (Int32 × AH) :=
ck (m_t h v0 = .inl 0) <|
ob (m_r h v0 0) fun b2 =>
ck (m_t h b2 = .inl 9) <|
cb (f_X9_isTunnel G b2 (m_i h v0 4) h) fun r6 h4 =>
if r6 = 0 then (some ((0 : Int32), h4)) else
some ((9 : Int32) * v1, h4)
set_option maxHeartbeats 4000000 in
set_option maxRecDepth 100000 in
theorem ct_X0_tollFor {G : GG} {l : Launch} {v0 : Nat} {v1 : Int32} {h : AH} {y : Int32 × AH} (hf : f_X0_tollFor G v0 v1 h = some y) : Ct G l yX0_tollFor cX0_tollFor 2 (some .int) 1 22 0 0 [.ref v0, .int v1] h (some (.int y.1), y.2) := by
  refine ct_of (by decide) (Nat.le_of_ble_eq_true rfl) ?_
  intro p e s m args below meth c C hm hr hin
  have C : Cx G cX0_tollFor RX0 p s m args meth c := C
  refine e_lv (lv2 := [(0, .ref v0), (1, .int v1)]) [0, 1] rfl ?_
  unfold f_X0_tollFor at hf
  refine e_aload_n (pc := 0) C dX0_tollFor_0 0 rfl rfl ?_
  obtain ⟨t1, hf⟩ := ck_e hf
  refine e_getr (pc := 1) 0 0 C dX0_tollFor_1 (by decide) (by decide) g393 rfl t1 ?_
  obtain ⟨b2, eb2, hf⟩ := ob_e hf
  refine e_rf eb2 ?_
  refine e_aload_n (pc := 4) C dX0_tollFor_4 0 rfl rfl ?_
  refine e_geti (pc := 5) 0 4 C dX0_tollFor_5 (by decide) (by decide) g412 rfl t1 ?_
  obtain ⟨t3, hf⟩ := ck_e hf
  obtain ⟨r6, h4, y5, hf⟩ := cb_e hf
  refine e_callVi (pc := 8) (st := []) 9 C (ct_X9_isTunnel y5) dX0_tollFor_8 (by decide) t3 g937 g938 g939 g152 g940 hd_X9_isTunnel rfl ⟨Nat.le_of_ble_eq_true rfl, Nat.le_of_ble_eq_true rfl⟩ ⟨Nat.le_of_ble_eq_true rfl, Nat.le_of_ble_eq_true rfl⟩ rfl (Nat.le_of_ble_eq_true rfl) ?_
  rcases it_e hf with ⟨c7, hf⟩ | ⟨c7, hf⟩
  · refine e_if_eq (pc := 11) (tgt := 21) C dX0_tollFor_11 (by decide) (fun _ => ?_) (fun q => absurd c7 q)
    refine e_iconst (v := (0 : Int32)) (pc := 21) C dX0_tollFor_21 (by decide) ?_
    obtain rfl := so_e hf
    exact e_iret (pc := 22) C hr dX0_tollFor_22 (Nat.le_of_ble_eq_true rfl) (Nat.le_of_ble_eq_true rfl)
  · refine e_if_eq (pc := 11) (tgt := 21) C dX0_tollFor_11 (by decide) (fun q => absurd q c7) (fun _ => ?_)
    refine e_bipush (v := (9 : Int32)) (pc := 14) C dX0_tollFor_14 (by decide) ?_
    refine e_iload_n (pc := 16) C dX0_tollFor_16 1 rfl rfl ?_
    refine e_imul (pc := 17) C dX0_tollFor_17 ?_
    refine e_goto (pc := 18) (tgt := 22) C dX0_tollFor_18 (by decide) ?_
    obtain rfl := so_e hf
    exact e_iret (pc := 22) C hr dX0_tollFor_22 (Nat.le_of_ble_eq_true rfl) (Nat.le_of_ble_eq_true rfl)
theorem dX0_sufferingOf_0 : decode cX0_sufferingOf 0 = .ok (.aload_n 0, 1) := by decide +kernel
theorem dX0_sufferingOf_1 : decode cX0_sufferingOf 1 = .ok (.iload_n 1, 1) := by decide +kernel
theorem dX0_sufferingOf_2 : decode cX0_sufferingOf 2 = .ok (.aload_n 0, 1) := by decide +kernel
theorem dX0_sufferingOf_3 : decode cX0_sufferingOf 3 = .ok (.getfield 28, 3) := by decide +kernel
theorem dX0_sufferingOf_6 : decode cX0_sufferingOf 6 = .ok (.iload_n 1, 1) := by decide +kernel
theorem dX0_sufferingOf_7 : decode cX0_sufferingOf 7 = .ok (.iaload, 1) := by decide +kernel
theorem dX0_sufferingOf_8 : decode cX0_sufferingOf 8 = .ok (.iload_n 2, 1) := by decide +kernel
theorem dX0_sufferingOf_9 : decode cX0_sufferingOf 9 = .ok (.invokevirtual 108, 3) := by decide +kernel
theorem dX0_sufferingOf_12 : decode cX0_sufferingOf 12 = .ok (.aload_n 0, 1) := by decide +kernel
theorem dX0_sufferingOf_13 : decode cX0_sufferingOf 13 = .ok (.iload_n 2, 1) := by decide +kernel
theorem dX0_sufferingOf_14 : decode cX0_sufferingOf 14 = .ok (.invokevirtual 112, 3) := by decide +kernel
theorem dX0_sufferingOf_17 : decode cX0_sufferingOf 17 = .ok (.iadd, 1) := by decide +kernel
theorem dX0_sufferingOf_18 : decode cX0_sufferingOf 18 = .ok (.ireturn, 1) := by decide +kernel
noncomputable def f_X0_sufferingOf (G : GG) (v0 : Nat) (v1 : Int32) (v2 : Int32) (h : AH) : Option (Int32 × AH) :=
ck (m_t h v0 = .inl 0) <|
ob (m_r h v0 6) fun b2 =>
ck (ixb h b2 .int v1 = true) <|
cb (f_X0_unease G v0 v1 (m_i h b2 v1.toNatClampNeg) v2 h) fun r7 h5 =>
ck (m_t h5 v0 = .inl 0) <|
cb (f_X0_tollFor G v0 v2 h5) fun r11 h9 =>
some (r7 + r11, h9)
set_option maxHeartbeats 4000000 in
set_option maxRecDepth 100000 in
theorem ct_X0_sufferingOf {G : GG} {l : Launch} {v0 : Nat} {v1 : Int32} {v2 : Int32} {h : AH} {y : Int32 × AH} (hf : f_X0_sufferingOf G v0 v1 v2 h = some y) : Ct G l yX0_sufferingOf cX0_sufferingOf 3 (some .int) 3 67 0 0 [.ref v0, .int v1, .int v2] h (some (.int y.1), y.2) := by
  refine ct_of (by decide) (Nat.le_of_ble_eq_true rfl) ?_
  intro p e s m args below meth c C hm hr hin
  have C : Cx G cX0_sufferingOf RX0 p s m args meth c := C
  refine e_lv (lv2 := [(0, .ref v0), (1, .int v1), (2, .int v2)]) [0, 1, 2] rfl ?_
  unfold f_X0_sufferingOf at hf
  refine e_aload_n (pc := 0) C dX0_sufferingOf_0 0 rfl rfl ?_
  refine e_iload_n (pc := 1) C dX0_sufferingOf_1 1 rfl rfl ?_
  refine e_aload_n (pc := 2) C dX0_sufferingOf_2 0 rfl rfl ?_
  obtain ⟨t1, hf⟩ := ck_e hf
  refine e_getr (pc := 3) 0 6 C dX0_sufferingOf_3 (by decide) (by decide) g421 rfl t1 ?_
  obtain ⟨b2, eb2, hf⟩ := ob_e hf
  refine e_rf eb2 ?_
  refine e_iload_n (pc := 6) C dX0_sufferingOf_6 1 rfl rfl ?_
  obtain ⟨q3, hf⟩ := ck_e hf
  obtain ⟨n4, tn4, in4⟩ := ix_e q3
  refine e_iald (pc := 7) C dX0_sufferingOf_7 tn4 in4 ?_
  refine e_iload_n (pc := 8) C dX0_sufferingOf_8 2 rfl rfl ?_
  obtain ⟨r7, h5, y6, hf⟩ := cb_e hf
  refine e_callVi (pc := 9) (st := []) 0 C (ct_X0_unease y6) dX0_sufferingOf_9 (by decide) t1 g925 g926 g927 g151 g928 hd_X0_unease rfl ⟨Nat.le_of_ble_eq_true rfl, Nat.le_of_ble_eq_true rfl⟩ ⟨Nat.le_of_ble_eq_true rfl, Nat.le_of_ble_eq_true rfl⟩ rfl (Nat.le_of_ble_eq_true rfl) ?_
  refine e_aload_n (pc := 12) C dX0_sufferingOf_12 0 rfl rfl ?_
  refine e_iload_n (pc := 13) C dX0_sufferingOf_13 2 rfl rfl ?_
  obtain ⟨t8, hf⟩ := ck_e hf
  obtain ⟨r11, h9, y10, hf⟩ := cb_e hf
  refine e_callVi (pc := 14) (st := [.int r7]) 0 C (ct_X0_tollFor y10) dX0_sufferingOf_14 (by decide) t8 g933 g934 g935 g151 g936 hd_X0_tollFor rfl ⟨Nat.le_of_ble_eq_true rfl, Nat.le_of_ble_eq_true rfl⟩ ⟨Nat.le_of_ble_eq_true rfl, Nat.le_of_ble_eq_true rfl⟩ rfl (Nat.le_of_ble_eq_true rfl) ?_
  refine e_iadd (pc := 17) C dX0_sufferingOf_17 ?_
  obtain rfl := so_e hf
  exact e_iret (pc := 18) C hr dX0_sufferingOf_18 (Nat.le_of_ble_eq_true rfl) (Nat.le_of_ble_eq_true rfl)
theorem dX11_person_0 : decode cX11_person 0 = .ok (.aload_n 0, 1) := by decide +kernel
theorem dX11_person_1 : decode cX11_person 1 = .ok (.getfield 55, 3) := by decide +kernel
theorem dX11_person_4 : decode cX11_person 4 = .ok (.getfield 63, 3) := by decide +kernel
theorem dX11_person_7 : decode cX11_person 7 = .ok (.astore_n 3, 1) := by decide +kernel
theorem dX11_person_8 : decode cX11_person 8 = .ok (.aload_n 3, 1) := by decide +kernel
theorem dX11_person_9 : decode cX11_person 9 = .ok (.getfield 67, 3) := by decide +kernel
theorem dX11_person_12 : decode cX11_person 12 = .ok (.iload_n 1, 1) := by decide +kernel
theorem dX11_person_13 : decode cX11_person 13 = .ok (.invokevirtual 133, 3) := by decide +kernel
theorem dX11_person_16 : decode cX11_person 16 = .ok (.ifCond .ne 6, 3) := by decide +kernel
theorem dX11_person_19 : decode cX11_person 19 = .ok (.bipush (-100), 2) := by decide +kernel
theorem dX11_person_21 : decode cX11_person 21 = .ok (.ireturn, 1) := by decide +kernel
theorem dX11_person_22 : decode cX11_person 22 = .ok (.aload_n 3, 1) := by decide +kernel
theorem dX11_person_23 : decode cX11_person 23 = .ok (.getfield 67, 3) := by decide +kernel
theorem dX11_person_26 : decode cX11_person 26 = .ok (.getfield 136, 3) := by decide +kernel
theorem dX11_person_29 : decode cX11_person 29 = .ok (.iload_n 1, 1) := by decide +kernel
theorem dX11_person_30 : decode cX11_person 30 = .ok (.aaload, 1) := by decide +kernel
theorem dX11_person_31 : decode cX11_person 31 = .ok (.astore 4, 2) := by decide +kernel
theorem dX11_person_33 : decode cX11_person 33 = .ok (.aload_n 3, 1) := by decide +kernel
theorem dX11_person_34 : decode cX11_person 34 = .ok (.iload_n 1, 1) := by decide +kernel
theorem dX11_person_35 : decode cX11_person 35 = .ok (.invokevirtual 140, 3) := by decide +kernel
theorem dX11_person_38 : decode cX11_person 38 = .ok (.istore 5, 2) := by decide +kernel
theorem dX11_person_40 : decode cX11_person 40 = .ok (.iload_n 2, 1) := by decide +kernel
theorem dX11_person_41 : decode cX11_person 41 = .ok (.tableswitch 154 0 9 #[55, 62, 73, 88, 107, 114, 121, 128, 134, 140], 55) := by decide +kernel
theorem dX11_person_96 : decode cX11_person 96 = .ok (.aload_n 3, 1) := by decide +kernel
theorem dX11_person_97 : decode cX11_person 97 = .ok (.getfield 143, 3) := by decide +kernel
theorem dX11_person_100 : decode cX11_person 100 = .ok (.iload_n 1, 1) := by decide +kernel
theorem dX11_person_101 : decode cX11_person 101 = .ok (.iaload, 1) := by decide +kernel
theorem dX11_person_102 : decode cX11_person 102 = .ok (.ireturn, 1) := by decide +kernel
theorem dX11_person_103 : decode cX11_person 103 = .ok (.iload 5, 2) := by decide +kernel
theorem dX11_person_105 : decode cX11_person 105 = .ok (.ifCond .eq 7, 3) := by decide +kernel
theorem dX11_person_108 : decode cX11_person 108 = .ok (.iconst 1, 1) := by decide +kernel
theorem dX11_person_109 : decode cX11_person 109 = .ok (.goto 4, 3) := by decide +kernel
theorem dX11_person_112 : decode cX11_person 112 = .ok (.iconst 0, 1) := by decide +kernel
theorem dX11_person_113 : decode cX11_person 113 = .ok (.ireturn, 1) := by decide +kernel
theorem dX11_person_114 : decode cX11_person 114 = .ok (.iload 5, 2) := by decide +kernel
theorem dX11_person_116 : decode cX11_person 116 = .ok (.ifCond .eq 11, 3) := by decide +kernel
theorem dX11_person_119 : decode cX11_person 119 = .ok (.aload_n 3, 1) := by decide +kernel
theorem dX11_person_120 : decode cX11_person 120 = .ok (.iload_n 1, 1) := by decide +kernel
theorem dX11_person_121 : decode cX11_person 121 = .ok (.invokevirtual 146, 3) := by decide +kernel
theorem dX11_person_124 : decode cX11_person 124 = .ok (.goto 4, 3) := by decide +kernel
theorem dX11_person_127 : decode cX11_person 127 = .ok (.iconst (-1), 1) := by decide +kernel
theorem dX11_person_128 : decode cX11_person 128 = .ok (.ireturn, 1) := by decide +kernel
theorem dX11_person_129 : decode cX11_person 129 = .ok (.iload 5, 2) := by decide +kernel
theorem dX11_person_131 : decode cX11_person 131 = .ok (.ifCond .eq 15, 3) := by decide +kernel
theorem dX11_person_134 : decode cX11_person 134 = .ok (.aload_n 3, 1) := by decide +kernel
theorem dX11_person_135 : decode cX11_person 135 = .ok (.iload_n 1, 1) := by decide +kernel
theorem dX11_person_136 : decode cX11_person 136 = .ok (.aload_n 3, 1) := by decide +kernel
theorem dX11_person_137 : decode cX11_person 137 = .ok (.getfield 150, 3) := by decide +kernel
theorem dX11_person_140 : decode cX11_person 140 = .ok (.invokevirtual 153, 3) := by decide +kernel
theorem dX11_person_143 : decode cX11_person 143 = .ok (.goto 4, 3) := by decide +kernel
theorem dX11_person_146 : decode cX11_person 146 = .ok (.iconst 0, 1) := by decide +kernel
theorem dX11_person_147 : decode cX11_person 147 = .ok (.ireturn, 1) := by decide +kernel
theorem dX11_person_148 : decode cX11_person 148 = .ok (.aload_n 3, 1) := by decide +kernel
theorem dX11_person_149 : decode cX11_person 149 = .ok (.getfield 157, 3) := by decide +kernel
theorem dX11_person_152 : decode cX11_person 152 = .ok (.iload_n 1, 1) := by decide +kernel
theorem dX11_person_153 : decode cX11_person 153 = .ok (.iaload, 1) := by decide +kernel
theorem dX11_person_154 : decode cX11_person 154 = .ok (.ireturn, 1) := by decide +kernel
theorem dX11_person_155 : decode cX11_person 155 = .ok (.aload_n 3, 1) := by decide +kernel
theorem dX11_person_156 : decode cX11_person 156 = .ok (.getfield 160, 3) := by decide +kernel
theorem dX11_person_159 : decode cX11_person 159 = .ok (.iload_n 1, 1) := by decide +kernel
theorem dX11_person_160 : decode cX11_person 160 = .ok (.iaload, 1) := by decide +kernel
theorem dX11_person_161 : decode cX11_person 161 = .ok (.ireturn, 1) := by decide +kernel
theorem dX11_person_162 : decode cX11_person 162 = .ok (.aload_n 3, 1) := by decide +kernel
theorem dX11_person_163 : decode cX11_person 163 = .ok (.getfield 163, 3) := by decide +kernel
theorem dX11_person_166 : decode cX11_person 166 = .ok (.iload_n 1, 1) := by decide +kernel
theorem dX11_person_167 : decode cX11_person 167 = .ok (.iaload, 1) := by decide +kernel
theorem dX11_person_168 : decode cX11_person 168 = .ok (.ireturn, 1) := by decide +kernel
theorem dX11_person_169 : decode cX11_person 169 = .ok (.aload 4, 2) := by decide +kernel
theorem dX11_person_171 : decode cX11_person 171 = .ok (.getfield 166, 3) := by decide +kernel
theorem dX11_person_174 : decode cX11_person 174 = .ok (.ireturn, 1) := by decide +kernel
theorem dX11_person_175 : decode cX11_person 175 = .ok (.aload 4, 2) := by decide +kernel
theorem dX11_person_177 : decode cX11_person 177 = .ok (.getfield 171, 3) := by decide +kernel
theorem dX11_person_180 : decode cX11_person 180 = .ok (.ireturn, 1) := by decide +kernel
theorem dX11_person_181 : decode cX11_person 181 = .ok (.aload 4, 2) := by decide +kernel
theorem dX11_person_183 : decode cX11_person 183 = .ok (.getfield 174, 3) := by decide +kernel
theorem dX11_person_186 : decode cX11_person 186 = .ok (.ifCond .eq 7, 3) := by decide +kernel
theorem dX11_person_189 : decode cX11_person 189 = .ok (.iconst 1, 1) := by decide +kernel
theorem dX11_person_190 : decode cX11_person 190 = .ok (.goto 4, 3) := by decide +kernel
theorem dX11_person_193 : decode cX11_person 193 = .ok (.iconst 0, 1) := by decide +kernel
theorem dX11_person_194 : decode cX11_person 194 = .ok (.ireturn, 1) := by decide +kernel
theorem dX11_person_195 : decode cX11_person 195 = .ok (.bipush (-100), 2) := by decide +kernel
theorem dX11_person_197 : decode cX11_person 197 = .ok (.ireturn, 1) := by decide +kernel
noncomputable def f_X11_person (G : GG) (v0 : Nat) (v1 : Int32) (v2 : Int32) (h : AH) : Option (Int32 × AH) :=
ck (m_t h v0 = .inl 11) <|
ob (m_r h v0 5) fun b2 =>
ck (m_t h b2 = .inl 6) <|
ob (m_r h b2 0) fun b4 =>
ck (m_t h b4 = .inl 0) <|
ob (m_r h b4 0) fun b6 =>
ck (m_t h b6 = .inl 9) <|
cb (f_X9_hasPerson G b6 v1 h) fun r10 h8 =>
if r10 = 0 then (some ((-100 : Int32), h8)) else
ck (m_t h8 b4 = .inl 0) <|
ob (m_r h8 b4 0) fun b13 =>
ck (m_t h8 b13 = .inl 9) <|
ob (m_r h8 b13 6) fun b15 =>
ck (ixb h8 b15 (.object RX5) v1 = true) <|
ob (m_r h8 b15 v1.toNatClampNeg) fun b18 =>
cb (f_X0_isAboard G b4 v1 h8) fun r21 h19 =>
if v2 = (0 : Int32) then (ck (m_t h19 b4 = .inl 0) <|
ob (m_r h19 b4 6) fun b24 =>
ck (ixb h19 b24 .int v1 = true) <|
some (m_i h19 b24 v1.toNatClampNeg, h19)) else
if v2 = (1 : Int32) then (if r21 = 0 then (some ((0 : Int32), h19)) else
some ((1 : Int32), h19)) else
if v2 = (2 : Int32) then (if r21 = 0 then (some ((-1 : Int32), h19)) else
ck (m_t h19 b4 = .inl 0) <|
cb (f_X0_wantOf G b4 v1 h19) fun r34 h32 =>
some (r34, h32)) else
if v2 = (3 : Int32) then (if r21 = 0 then (some ((0 : Int32), h19)) else
ck (m_t h19 b4 = .inl 0) <|
cb (f_X0_sufferingOf G b4 v1 (m_i h19 b4 2) h19) fun r40 h38 =>
some (r40, h38)) else
if v2 = (4 : Int32) then (ck (m_t h19 b4 = .inl 0) <|
ob (m_r h19 b4 7) fun b43 =>
ck (ixb h19 b43 .int v1 = true) <|
some (m_i h19 b43 v1.toNatClampNeg, h19)) else
if v2 = (5 : Int32) then (ck (m_t h19 b4 = .inl 0) <|
ob (m_r h19 b4 8) fun b48 =>
ck (ixb h19 b48 .int v1 = true) <|
some (m_i h19 b48 v1.toNatClampNeg, h19)) else
if v2 = (6 : Int32) then (ck (m_t h19 b4 = .inl 0) <|
ob (m_r h19 b4 9) fun b53 =>
ck (ixb h19 b53 .int v1 = true) <|
some (m_i h19 b53 v1.toNatClampNeg, h19)) else
if v2 = (7 : Int32) then (ck (m_t h19 b18 = .inl 5) <|
some (m_i h19 b18 3, h19)) else
if v2 = (8 : Int32) then (ck (m_t h19 b18 = .inl 5) <|
some (m_i h19 b18 4, h19)) else
if v2 = (9 : Int32) then (ck (m_t h19 b18 = .inl 5) <|
if (m_i h19 b18 6) = 0 then (some ((0 : Int32), h19)) else
some ((1 : Int32), h19)) else
some ((-100 : Int32), h19)
set_option maxHeartbeats 4000000 in
set_option maxRecDepth 100000 in
theorem ct_X11_person {G : GG} {l : Launch} {v0 : Nat} {v1 : Int32} {v2 : Int32} {h : AH} {y : Int32 × AH} (hf : f_X11_person G v0 v1 v2 h = some y) : Ct G l yX11_person cX11_person 6 (some .int) 4 89 0 0 [.ref v0, .int v1, .int v2] h (some (.int y.1), y.2) := by
  refine ct_of (by decide) (Nat.le_of_ble_eq_true rfl) ?_
  intro p e s m args below meth c C hm hr hin
  have C : Cx G cX11_person RX11 p s m args meth c := C
  refine e_lv (lv2 := [(0, .ref v0), (1, .int v1), (2, .int v2)]) [0, 1, 2] rfl ?_
  unfold f_X11_person at hf
  refine e_aload_n (pc := 0) C dX11_person_0 0 rfl rfl ?_
  obtain ⟨t1, hf⟩ := ck_e hf
  refine e_getr (pc := 1) 11 5 C dX11_person_1 (by decide) (by decide) g578 rfl t1 ?_
  obtain ⟨b2, eb2, hf⟩ := ob_e hf
  refine e_rf eb2 ?_
  obtain ⟨t3, hf⟩ := ck_e hf
  refine e_getrN (pc := 4) 6 0 C dX11_person_4 (by decide) (by decide) g458 rfl t3 ?_
  obtain ⟨b4, eb4, hf⟩ := ob_e hf
  refine e_rf eb4 ?_
  refine e_astore_n (pc := 7) (lv2 := [(3, .ref b4), (0, .ref v0), (1, .int v1), (2, .int v2)]) C hm dX11_person_7 rfl (by decide) rfl ?_
  refine e_aload_n (pc := 8) C dX11_person_8 0 rfl rfl ?_
  obtain ⟨t5, hf⟩ := ck_e hf
  refine e_getrN (pc := 9) 0 0 C dX11_person_9 (by decide) (by decide) g394 rfl t5 ?_
  obtain ⟨b6, eb6, hf⟩ := ob_e hf
  refine e_rf eb6 ?_
  refine e_iload_n (pc := 12) C dX11_person_12 2 rfl rfl ?_
  obtain ⟨t7, hf⟩ := ck_e hf
  obtain ⟨r10, h8, y9, hf⟩ := cb_e hf
  refine e_callVi (pc := 13) (st := []) 9 C (ct_X9_hasPerson y9) dX11_person_13 (by decide) t7 g907 g753 g754 g152 g755 hd_X9_hasPerson rfl ⟨Nat.le_of_ble_eq_true rfl, Nat.le_of_ble_eq_true rfl⟩ ⟨Nat.le_of_ble_eq_true rfl, Nat.le_of_ble_eq_true rfl⟩ rfl (Nat.le_of_ble_eq_true rfl) ?_
  rcases it_e hf with ⟨c11, hf⟩ | ⟨c11, hf⟩
  · refine e_if_ne (pc := 16) (tgt := 22) C dX11_person_16 (by decide) (fun q => absurd c11 q) (fun _ => ?_)
    refine e_bipush (v := (-100 : Int32)) (pc := 19) C dX11_person_19 (by decide) ?_
    obtain rfl := so_e hf
    exact e_iret (pc := 21) C hr dX11_person_21 (Nat.le_of_ble_eq_true rfl) (Nat.le_of_ble_eq_true rfl)
  · refine e_if_ne (pc := 16) (tgt := 22) C dX11_person_16 (by decide) (fun _ => ?_) (fun q => absurd q c11)
    refine e_aload_n (pc := 22) C dX11_person_22 0 rfl rfl ?_
    obtain ⟨t12, hf⟩ := ck_e hf
    refine e_getrN (pc := 23) 0 0 C dX11_person_23 (by decide) (by decide) g394 rfl t12 ?_
    obtain ⟨b13, eb13, hf⟩ := ob_e hf
    refine e_rf eb13 ?_
    obtain ⟨t14, hf⟩ := ck_e hf
    refine e_getrN (pc := 26) 9 6 C dX11_person_26 (by decide) (by decide) g343 rfl t14 ?_
    obtain ⟨b15, eb15, hf⟩ := ob_e hf
    refine e_rf eb15 ?_
    refine e_iload_n (pc := 29) C dX11_person_29 2 rfl rfl ?_
    obtain ⟨q16, hf⟩ := ck_e hf
    obtain ⟨n17, tn17, in17⟩ := ix_e q16
    refine e_aald (pc := 30) 4 rfl C dX11_person_30 tn17 in17 ?_
    obtain ⟨b18, eb18, hf⟩ := ob_e hf
    refine e_rf eb18 ?_
    refine e_astore (pc := 31) (lv2 := [(4, .ref b18), (3, .ref b4), (0, .ref v0), (1, .int v1), (2, .int v2)]) C hm dX11_person_31 (by decide) rfl ?_
    refine e_aload_n (pc := 33) C dX11_person_33 1 rfl rfl ?_
    refine e_iload_n (pc := 34) C dX11_person_34 3 rfl rfl ?_
    obtain ⟨r21, h19, y20, hf⟩ := cb_e hf
    refine e_callVi (pc := 35) (st := []) 0 C (ct_X0_isAboard y20) dX11_person_35 (by decide) t12 g908 g909 g910 g151 g911 hd_X0_isAboard rfl ⟨Nat.le_of_ble_eq_true rfl, Nat.le_of_ble_eq_true rfl⟩ ⟨Nat.le_of_ble_eq_true rfl, Nat.le_of_ble_eq_true rfl⟩ rfl (Nat.le_of_ble_eq_true rfl) ?_
    refine e_istore (pc := 38) (lv2 := [(5, .int r21), (4, .ref b18), (3, .ref b4), (0, .ref v0), (1, .int v1), (2, .int v2)]) C hm dX11_person_38 (by decide) rfl ?_
    refine e_iload_n (pc := 40) C dX11_person_40 5 rfl rfl ?_
    rcases it_e hf with ⟨c22, hf⟩ | ⟨c22, hf⟩
    · refine e_tabK (pc := 41) (tgt := 96) (0 : Int32) c22 C dX11_person_41 (by decide) (by decide) rfl (by decide) ?_
      refine e_aload_n (pc := 96) C dX11_person_96 2 rfl rfl ?_
      obtain ⟨t23, hf⟩ := ck_e hf
      refine e_getrN (pc := 97) 0 6 C dX11_person_97 (by decide) (by decide) g424 rfl t23 ?_
      obtain ⟨b24, eb24, hf⟩ := ob_e hf
      refine e_rf eb24 ?_
      refine e_iload_n (pc := 100) C dX11_person_100 4 rfl rfl ?_
      obtain ⟨q25, hf⟩ := ck_e hf
      obtain ⟨n26, tn26, in26⟩ := ix_e q25
      refine e_iald (pc := 101) C dX11_person_101 tn26 in26 ?_
      obtain rfl := so_e hf
      exact e_iret (pc := 102) C hr dX11_person_102 (Nat.le_of_ble_eq_true rfl) (Nat.le_of_ble_eq_true rfl)
    rcases it_e hf with ⟨c27, hf⟩ | ⟨c27, hf⟩
    · refine e_tabK (pc := 41) (tgt := 103) (1 : Int32) c27 C dX11_person_41 (by decide) (by decide) rfl (by decide) ?_
      refine e_iload (pc := 103) C dX11_person_103 0 rfl ?_
      rcases it_e hf with ⟨c28, hf⟩ | ⟨c28, hf⟩
      · refine e_if_eq (pc := 105) (tgt := 112) C dX11_person_105 (by decide) (fun _ => ?_) (fun q => absurd c28 q)
        refine e_iconst (v := (0 : Int32)) (pc := 112) C dX11_person_112 (by decide) ?_
        obtain rfl := so_e hf
        exact e_iret (pc := 113) C hr dX11_person_113 (Nat.le_of_ble_eq_true rfl) (Nat.le_of_ble_eq_true rfl)
      · refine e_if_eq (pc := 105) (tgt := 112) C dX11_person_105 (by decide) (fun q => absurd q c28) (fun _ => ?_)
        refine e_iconst (v := (1 : Int32)) (pc := 108) C dX11_person_108 (by decide) ?_
        refine e_goto (pc := 109) (tgt := 113) C dX11_person_109 (by decide) ?_
        obtain rfl := so_e hf
        exact e_iret (pc := 113) C hr dX11_person_113 (Nat.le_of_ble_eq_true rfl) (Nat.le_of_ble_eq_true rfl)
    rcases it_e hf with ⟨c29, hf⟩ | ⟨c29, hf⟩
    · refine e_tabK (pc := 41) (tgt := 114) (2 : Int32) c29 C dX11_person_41 (by decide) (by decide) rfl (by decide) ?_
      refine e_iload (pc := 114) C dX11_person_114 0 rfl ?_
      rcases it_e hf with ⟨c30, hf⟩ | ⟨c30, hf⟩
      · refine e_if_eq (pc := 116) (tgt := 127) C dX11_person_116 (by decide) (fun _ => ?_) (fun q => absurd c30 q)
        refine e_iconst (v := (-1 : Int32)) (pc := 127) C dX11_person_127 (by decide) ?_
        obtain rfl := so_e hf
        exact e_iret (pc := 128) C hr dX11_person_128 (Nat.le_of_ble_eq_true rfl) (Nat.le_of_ble_eq_true rfl)
      · refine e_if_eq (pc := 116) (tgt := 127) C dX11_person_116 (by decide) (fun q => absurd q c30) (fun _ => ?_)
        refine e_aload_n (pc := 119) C dX11_person_119 2 rfl rfl ?_
        refine e_iload_n (pc := 120) C dX11_person_120 4 rfl rfl ?_
        obtain ⟨t31, hf⟩ := ck_e hf
        obtain ⟨r34, h32, y33, hf⟩ := cb_e hf
        refine e_callVi (pc := 121) (st := []) 0 C (ct_X0_wantOf y33) dX11_person_121 (by decide) t31 g913 g914 g915 g151 g916 hd_X0_wantOf rfl ⟨Nat.le_of_ble_eq_true rfl, Nat.le_of_ble_eq_true rfl⟩ ⟨Nat.le_of_ble_eq_true rfl, Nat.le_of_ble_eq_true rfl⟩ rfl (Nat.le_of_ble_eq_true rfl) ?_
        refine e_goto (pc := 124) (tgt := 128) C dX11_person_124 (by decide) ?_
        obtain rfl := so_e hf
        exact e_iret (pc := 128) C hr dX11_person_128 (Nat.le_of_ble_eq_true rfl) (Nat.le_of_ble_eq_true rfl)
    rcases it_e hf with ⟨c35, hf⟩ | ⟨c35, hf⟩
    · refine e_tabK (pc := 41) (tgt := 129) (3 : Int32) c35 C dX11_person_41 (by decide) (by decide) rfl (by decide) ?_
      refine e_iload (pc := 129) C dX11_person_129 0 rfl ?_
      rcases it_e hf with ⟨c36, hf⟩ | ⟨c36, hf⟩
      · refine e_if_eq (pc := 131) (tgt := 146) C dX11_person_131 (by decide) (fun _ => ?_) (fun q => absurd c36 q)
        refine e_iconst (v := (0 : Int32)) (pc := 146) C dX11_person_146 (by decide) ?_
        obtain rfl := so_e hf
        exact e_iret (pc := 147) C hr dX11_person_147 (Nat.le_of_ble_eq_true rfl) (Nat.le_of_ble_eq_true rfl)
      · refine e_if_eq (pc := 131) (tgt := 146) C dX11_person_131 (by decide) (fun q => absurd q c36) (fun _ => ?_)
        refine e_aload_n (pc := 134) C dX11_person_134 2 rfl rfl ?_
        refine e_iload_n (pc := 135) C dX11_person_135 4 rfl rfl ?_
        refine e_aload_n (pc := 136) C dX11_person_136 2 rfl rfl ?_
        obtain ⟨t37, hf⟩ := ck_e hf
        refine e_getiN (pc := 137) 0 2 C dX11_person_137 (by decide) (by decide) g406 rfl t37 ?_
        obtain ⟨r40, h38, y39, hf⟩ := cb_e hf
        refine e_callVi (pc := 140) (st := []) 0 C (ct_X0_sufferingOf y39) dX11_person_140 (by decide) t37 g921 g922 g923 g151 g924 hd_X0_sufferingOf rfl ⟨Nat.le_of_ble_eq_true rfl, Nat.le_of_ble_eq_true rfl⟩ ⟨Nat.le_of_ble_eq_true rfl, Nat.le_of_ble_eq_true rfl⟩ rfl (Nat.le_of_ble_eq_true rfl) ?_
        refine e_goto (pc := 143) (tgt := 147) C dX11_person_143 (by decide) ?_
        obtain rfl := so_e hf
        exact e_iret (pc := 147) C hr dX11_person_147 (Nat.le_of_ble_eq_true rfl) (Nat.le_of_ble_eq_true rfl)
    rcases it_e hf with ⟨c41, hf⟩ | ⟨c41, hf⟩
    · refine e_tabK (pc := 41) (tgt := 148) (4 : Int32) c41 C dX11_person_41 (by decide) (by decide) rfl (by decide) ?_
      refine e_aload_n (pc := 148) C dX11_person_148 2 rfl rfl ?_
      obtain ⟨t42, hf⟩ := ck_e hf
      refine e_getrN (pc := 149) 0 7 C dX11_person_149 (by decide) (by decide) g427 rfl t42 ?_
      obtain ⟨b43, eb43, hf⟩ := ob_e hf
      refine e_rf eb43 ?_
      refine e_iload_n (pc := 152) C dX11_person_152 4 rfl rfl ?_
      obtain ⟨q44, hf⟩ := ck_e hf
      obtain ⟨n45, tn45, in45⟩ := ix_e q44
      refine e_iald (pc := 153) C dX11_person_153 tn45 in45 ?_
      obtain rfl := so_e hf
      exact e_iret (pc := 154) C hr dX11_person_154 (Nat.le_of_ble_eq_true rfl) (Nat.le_of_ble_eq_true rfl)
    rcases it_e hf with ⟨c46, hf⟩ | ⟨c46, hf⟩
    · refine e_tabK (pc := 41) (tgt := 155) (5 : Int32) c46 C dX11_person_41 (by decide) (by decide) rfl (by decide) ?_
      refine e_aload_n (pc := 155) C dX11_person_155 2 rfl rfl ?_
      obtain ⟨t47, hf⟩ := ck_e hf
      refine e_getrN (pc := 156) 0 8 C dX11_person_156 (by decide) (by decide) g429 rfl t47 ?_
      obtain ⟨b48, eb48, hf⟩ := ob_e hf
      refine e_rf eb48 ?_
      refine e_iload_n (pc := 159) C dX11_person_159 4 rfl rfl ?_
      obtain ⟨q49, hf⟩ := ck_e hf
      obtain ⟨n50, tn50, in50⟩ := ix_e q49
      refine e_iald (pc := 160) C dX11_person_160 tn50 in50 ?_
      obtain rfl := so_e hf
      exact e_iret (pc := 161) C hr dX11_person_161 (Nat.le_of_ble_eq_true rfl) (Nat.le_of_ble_eq_true rfl)
    rcases it_e hf with ⟨c51, hf⟩ | ⟨c51, hf⟩
    · refine e_tabK (pc := 41) (tgt := 162) (6 : Int32) c51 C dX11_person_41 (by decide) (by decide) rfl (by decide) ?_
      refine e_aload_n (pc := 162) C dX11_person_162 2 rfl rfl ?_
      obtain ⟨t52, hf⟩ := ck_e hf
      refine e_getrN (pc := 163) 0 9 C dX11_person_163 (by decide) (by decide) g431 rfl t52 ?_
      obtain ⟨b53, eb53, hf⟩ := ob_e hf
      refine e_rf eb53 ?_
      refine e_iload_n (pc := 166) C dX11_person_166 4 rfl rfl ?_
      obtain ⟨q54, hf⟩ := ck_e hf
      obtain ⟨n55, tn55, in55⟩ := ix_e q54
      refine e_iald (pc := 167) C dX11_person_167 tn55 in55 ?_
      obtain rfl := so_e hf
      exact e_iret (pc := 168) C hr dX11_person_168 (Nat.le_of_ble_eq_true rfl) (Nat.le_of_ble_eq_true rfl)
    rcases it_e hf with ⟨c56, hf⟩ | ⟨c56, hf⟩
    · refine e_tabK (pc := 41) (tgt := 169) (7 : Int32) c56 C dX11_person_41 (by decide) (by decide) rfl (by decide) ?_
      refine e_aload (pc := 169) C dX11_person_169 1 rfl ?_
      obtain ⟨t57, hf⟩ := ck_e hf
      refine e_getiN (pc := 171) 5 3 C dX11_person_171 (by decide) (by decide) g284 rfl t57 ?_
      obtain rfl := so_e hf
      exact e_iret (pc := 174) C hr dX11_person_174 (Nat.le_of_ble_eq_true rfl) (Nat.le_of_ble_eq_true rfl)
    rcases it_e hf with ⟨c58, hf⟩ | ⟨c58, hf⟩
    · refine e_tabK (pc := 41) (tgt := 175) (8 : Int32) c58 C dX11_person_41 (by decide) (by decide) rfl (by decide) ?_
      refine e_aload (pc := 175) C dX11_person_175 1 rfl ?_
      obtain ⟨t59, hf⟩ := ck_e hf
      refine e_getiN (pc := 177) 5 4 C dX11_person_177 (by decide) (by decide) g288 rfl t59 ?_
      obtain rfl := so_e hf
      exact e_iret (pc := 180) C hr dX11_person_180 (Nat.le_of_ble_eq_true rfl) (Nat.le_of_ble_eq_true rfl)
    rcases it_e hf with ⟨c60, hf⟩ | ⟨c60, hf⟩
    · refine e_tabK (pc := 41) (tgt := 181) (9 : Int32) c60 C dX11_person_41 (by decide) (by decide) rfl (by decide) ?_
      refine e_aload (pc := 181) C dX11_person_181 1 rfl ?_
      obtain ⟨t61, hf⟩ := ck_e hf
      refine e_getiN (pc := 183) 5 6 C dX11_person_183 (by decide) (by decide) g294 rfl t61 ?_
      rcases it_e hf with ⟨c62, hf⟩ | ⟨c62, hf⟩
      · refine e_if_eq (pc := 186) (tgt := 193) C dX11_person_186 (by decide) (fun _ => ?_) (fun q => absurd c62 q)
        refine e_iconst (v := (0 : Int32)) (pc := 193) C dX11_person_193 (by decide) ?_
        obtain rfl := so_e hf
        exact e_iret (pc := 194) C hr dX11_person_194 (Nat.le_of_ble_eq_true rfl) (Nat.le_of_ble_eq_true rfl)
      · refine e_if_eq (pc := 186) (tgt := 193) C dX11_person_186 (by decide) (fun q => absurd q c62) (fun _ => ?_)
        refine e_iconst (v := (1 : Int32)) (pc := 189) C dX11_person_189 (by decide) ?_
        refine e_goto (pc := 190) (tgt := 194) C dX11_person_190 (by decide) ?_
        obtain rfl := so_e hf
        exact e_iret (pc := 194) C hr dX11_person_194 (Nat.le_of_ble_eq_true rfl) (Nat.le_of_ble_eq_true rfl)
    refine e_tabOut (pc := 41) (tgt := 195) C dX11_person_41 (by have g0 := i_ne 0 (by decide) c22; have g1 := i_ne 1 (by decide) c27; have g2 := i_ne 2 (by decide) c29; have g3 := i_ne 3 (by decide) c35; have g4 := i_ne 4 (by decide) c41; have g5 := i_ne 5 (by decide) c46; have g6 := i_ne 6 (by decide) c51; have g7 := i_ne 7 (by decide) c56; have g8 := i_ne 8 (by decide) c58; have g9 := i_ne 9 (by decide) c60; omega) (by decide) ?_
    refine e_bipush (v := (-100 : Int32)) (pc := 195) C dX11_person_195 (by decide) ?_
    obtain rfl := so_e hf
    exact e_iret (pc := 197) C hr dX11_person_197 (Nat.le_of_ble_eq_true rfl) (Nat.le_of_ble_eq_true rfl)
theorem dX11_isSeat_0 : decode cX11_isSeat 0 = .ok (.iload_n 0, 1) := by decide +kernel
theorem dX11_isSeat_1 : decode cX11_isSeat 1 = .ok (.ifCond .lt 13, 3) := by decide +kernel
theorem dX11_isSeat_4 : decode cX11_isSeat 4 = .ok (.iload_n 0, 1) := by decide +kernel
theorem dX11_isSeat_5 : decode cX11_isSeat 5 = .ok (.bipush 8, 2) := by decide +kernel
theorem dX11_isSeat_7 : decode cX11_isSeat 7 = .ok (.if_icmp .ge 7, 3) := by decide +kernel
theorem dX11_isSeat_10 : decode cX11_isSeat 10 = .ok (.iconst 1, 1) := by decide +kernel
theorem dX11_isSeat_11 : decode cX11_isSeat 11 = .ok (.goto 4, 3) := by decide +kernel
theorem dX11_isSeat_14 : decode cX11_isSeat 14 = .ok (.iconst 0, 1) := by decide +kernel
theorem dX11_isSeat_15 : decode cX11_isSeat 15 = .ok (.ireturn, 1) := by decide +kernel
noncomputable def f_X11_isSeat (G : GG) (v0 : Int32) (h : AH) : Option (Int32 × AH) :=
if v0 < 0 then (some ((0 : Int32), h)) else
if (8 : Int32) ≤ v0 then (some ((0 : Int32), h)) else
some ((1 : Int32), h)
set_option maxHeartbeats 4000000 in
set_option maxRecDepth 100000 in
theorem ct_X11_isSeat {G : GG} {l : Launch} {v0 : Int32} {h : AH} {y : Int32 × AH} (hf : f_X11_isSeat G v0 h = some y) : Ct G l yX11_isSeat cX11_isSeat 1 (some .boolean) 0 0 0 0 [.int v0] h (some (.int y.1), y.2) := by
  refine ct_of (by decide) (Nat.le_of_ble_eq_true rfl) ?_
  intro p e s m args below meth c C hm hr hin
  have C : Cx G cX11_isSeat RX11 p s m args meth c := C
  refine e_lv (lv2 := [(0, .int v0)]) [0] rfl ?_
  unfold f_X11_isSeat at hf
  refine e_iload_n (pc := 0) C dX11_isSeat_0 0 rfl rfl ?_
  rcases it_e hf with ⟨c1, hf⟩ | ⟨c1, hf⟩
  · refine e_if_lt (pc := 1) (tgt := 14) C dX11_isSeat_1 (by decide) (fun _ => ?_) (fun q => absurd c1 q)
    refine e_iconst (v := (0 : Int32)) (pc := 14) C dX11_isSeat_14 (by decide) ?_
    obtain rfl := so_e hf
    exact e_zret (pc := 15) (v := (0 : Int32)) C hr (nz_ok (by decide)) dX11_isSeat_15 (Nat.le_of_ble_eq_true rfl) (Nat.le_of_ble_eq_true rfl)
  · refine e_if_lt (pc := 1) (tgt := 14) C dX11_isSeat_1 (by decide) (fun q => absurd q c1) (fun _ => ?_)
    refine e_iload_n (pc := 4) C dX11_isSeat_4 0 rfl rfl ?_
    refine e_bipush (v := (8 : Int32)) (pc := 5) C dX11_isSeat_5 (by decide) ?_
    rcases it_e hf with ⟨c2, hf⟩ | ⟨c2, hf⟩
    · refine e_icmp_ge (pc := 7) (tgt := 14) C dX11_isSeat_7 (by decide) (fun _ => ?_) (fun q => absurd c2 q)
      refine e_iconst (v := (0 : Int32)) (pc := 14) C dX11_isSeat_14 (by decide) ?_
      obtain rfl := so_e hf
      exact e_zret (pc := 15) (v := (0 : Int32)) C hr (nz_ok (by decide)) dX11_isSeat_15 (Nat.le_of_ble_eq_true rfl) (Nat.le_of_ble_eq_true rfl)
    · refine e_icmp_ge (pc := 7) (tgt := 14) C dX11_isSeat_7 (by decide) (fun q => absurd q c2) (fun _ => ?_)
      refine e_iconst (v := (1 : Int32)) (pc := 10) C dX11_isSeat_10 (by decide) ?_
      refine e_goto (pc := 11) (tgt := 15) C dX11_isSeat_11 (by decide) ?_
      obtain rfl := so_e hf
      exact e_zret (pc := 15) (v := (1 : Int32)) C hr (nz_ok (by decide)) dX11_isSeat_15 (Nat.le_of_ble_eq_true rfl) (Nat.le_of_ble_eq_true rfl)
theorem dX11_isHole_0 : decode cX11_isHole 0 = .ok (.iload_n 0, 1) := by decide +kernel
theorem dX11_isHole_1 : decode cX11_isHole 1 = .ok (.ifCond .lt 13, 3) := by decide +kernel
theorem dX11_isHole_4 : decode cX11_isHole 4 = .ok (.iload_n 0, 1) := by decide +kernel
theorem dX11_isHole_5 : decode cX11_isHole 5 = .ok (.bipush 6, 2) := by decide +kernel
theorem dX11_isHole_7 : decode cX11_isHole 7 = .ok (.if_icmp .ge 7, 3) := by decide +kernel
theorem dX11_isHole_10 : decode cX11_isHole 10 = .ok (.iconst 1, 1) := by decide +kernel
theorem dX11_isHole_11 : decode cX11_isHole 11 = .ok (.goto 4, 3) := by decide +kernel
theorem dX11_isHole_14 : decode cX11_isHole 14 = .ok (.iconst 0, 1) := by decide +kernel
theorem dX11_isHole_15 : decode cX11_isHole 15 = .ok (.ireturn, 1) := by decide +kernel
noncomputable def f_X11_isHole (G : GG) (v0 : Int32) (h : AH) : Option (Int32 × AH) :=
if v0 < 0 then (some ((0 : Int32), h)) else
if (6 : Int32) ≤ v0 then (some ((0 : Int32), h)) else
some ((1 : Int32), h)
set_option maxHeartbeats 4000000 in
set_option maxRecDepth 100000 in
theorem ct_X11_isHole {G : GG} {l : Launch} {v0 : Int32} {h : AH} {y : Int32 × AH} (hf : f_X11_isHole G v0 h = some y) : Ct G l yX11_isHole cX11_isHole 1 (some .boolean) 0 0 0 0 [.int v0] h (some (.int y.1), y.2) := by
  refine ct_of (by decide) (Nat.le_of_ble_eq_true rfl) ?_
  intro p e s m args below meth c C hm hr hin
  have C : Cx G cX11_isHole RX11 p s m args meth c := C
  refine e_lv (lv2 := [(0, .int v0)]) [0] rfl ?_
  unfold f_X11_isHole at hf
  refine e_iload_n (pc := 0) C dX11_isHole_0 0 rfl rfl ?_
  rcases it_e hf with ⟨c1, hf⟩ | ⟨c1, hf⟩
  · refine e_if_lt (pc := 1) (tgt := 14) C dX11_isHole_1 (by decide) (fun _ => ?_) (fun q => absurd c1 q)
    refine e_iconst (v := (0 : Int32)) (pc := 14) C dX11_isHole_14 (by decide) ?_
    obtain rfl := so_e hf
    exact e_zret (pc := 15) (v := (0 : Int32)) C hr (nz_ok (by decide)) dX11_isHole_15 (Nat.le_of_ble_eq_true rfl) (Nat.le_of_ble_eq_true rfl)
  · refine e_if_lt (pc := 1) (tgt := 14) C dX11_isHole_1 (by decide) (fun q => absurd q c1) (fun _ => ?_)
    refine e_iload_n (pc := 4) C dX11_isHole_4 0 rfl rfl ?_
    refine e_bipush (v := (6 : Int32)) (pc := 5) C dX11_isHole_5 (by decide) ?_
    rcases it_e hf with ⟨c2, hf⟩ | ⟨c2, hf⟩
    · refine e_icmp_ge (pc := 7) (tgt := 14) C dX11_isHole_7 (by decide) (fun _ => ?_) (fun q => absurd c2 q)
      refine e_iconst (v := (0 : Int32)) (pc := 14) C dX11_isHole_14 (by decide) ?_
      obtain rfl := so_e hf
      exact e_zret (pc := 15) (v := (0 : Int32)) C hr (nz_ok (by decide)) dX11_isHole_15 (Nat.le_of_ble_eq_true rfl) (Nat.le_of_ble_eq_true rfl)
    · refine e_icmp_ge (pc := 7) (tgt := 14) C dX11_isHole_7 (by decide) (fun q => absurd q c2) (fun _ => ?_)
      refine e_iconst (v := (1 : Int32)) (pc := 10) C dX11_isHole_10 (by decide) ?_
      refine e_goto (pc := 11) (tgt := 15) C dX11_isHole_11 (by decide) ?_
      obtain rfl := so_e hf
      exact e_zret (pc := 15) (v := (1 : Int32)) C hr (nz_ok (by decide)) dX11_isHole_15 (Nat.le_of_ble_eq_true rfl) (Nat.le_of_ble_eq_true rfl)
theorem dX11_air_0 : decode cX11_air 0 = .ok (.iload_n 1, 1) := by decide +kernel
theorem dX11_air_1 : decode cX11_air 1 = .ok (.invokestatic 178, 3) := by decide +kernel
theorem dX11_air_4 : decode cX11_air 4 = .ok (.ifCond .eq 18, 3) := by decide +kernel
theorem dX11_air_7 : decode cX11_air 7 = .ok (.iload_n 2, 1) := by decide +kernel
theorem dX11_air_8 : decode cX11_air 8 = .ok (.invokestatic 181, 3) := by decide +kernel
theorem dX11_air_11 : decode cX11_air 11 = .ok (.ifCond .eq 11, 3) := by decide +kernel
theorem dX11_air_14 : decode cX11_air 14 = .ok (.iload_n 1, 1) := by decide +kernel
theorem dX11_air_15 : decode cX11_air 15 = .ok (.iload_n 2, 1) := by decide +kernel
theorem dX11_air_16 : decode cX11_air 16 = .ok (.invokestatic 184, 3) := by decide +kernel
theorem dX11_air_19 : decode cX11_air 19 = .ok (.goto 4, 3) := by decide +kernel
theorem dX11_air_22 : decode cX11_air 22 = .ok (.iconst (-1), 1) := by decide +kernel
theorem dX11_air_23 : decode cX11_air 23 = .ok (.ireturn, 1) := by decide +kernel
noncomputable def f_X11_air (G : GG) (v0 : Nat) (v1 : Int32) (v2 : Int32) (h : AH) : Option (Int32 × AH) :=
cb (f_X11_isSeat G v1 h) fun r3 h1 =>
if r3 = 0 then (some ((-1 : Int32), h1)) else
cb (f_X11_isHole G v2 h1) fun r7 h5 =>
if r7 = 0 then (some ((-1 : Int32), h5)) else
cb (f_X11_airAt G v1 v2 h5) fun r11 h9 =>
some (r11, h9)
set_option maxHeartbeats 4000000 in
set_option maxRecDepth 100000 in
theorem ct_X11_air {G : GG} {l : Launch} {v0 : Nat} {v1 : Int32} {v2 : Int32} {h : AH} {y : Int32 × AH} (hf : f_X11_air G v0 v1 v2 h = some y) : Ct G l yX11_air cX11_air 3 (some .int) 2 41 0 0 [.ref v0, .int v1, .int v2] h (some (.int y.1), y.2) := by
  refine ct_of (by decide) (Nat.le_of_ble_eq_true rfl) ?_
  intro p e s m args below meth c C hm hr hin
  have C : Cx G cX11_air RX11 p s m args meth c := C
  refine e_lv (lv2 := [(0, .ref v0), (1, .int v1), (2, .int v2)]) [0, 1, 2] rfl ?_
  unfold f_X11_air at hf
  refine e_iload_n (pc := 0) C dX11_air_0 1 rfl rfl ?_
  obtain ⟨r3, h1, y2, hf⟩ := cb_e hf
  refine e_callSi (pc := 1) (st := []) C (ct_X11_isSeat y2) dX11_air_1 g945 g946 g146 g947 hd_X11_isSeat rfl ⟨Nat.le_of_ble_eq_true rfl, Nat.le_of_ble_eq_true rfl⟩ ⟨Nat.le_of_ble_eq_true rfl, Nat.le_of_ble_eq_true rfl⟩ rfl (Nat.le_of_ble_eq_true rfl) ?_
  rcases it_e hf with ⟨c4, hf⟩ | ⟨c4, hf⟩
  · refine e_if_eq (pc := 4) (tgt := 22) C dX11_air_4 (by decide) (fun _ => ?_) (fun q => absurd c4 q)
    refine e_iconst (v := (-1 : Int32)) (pc := 22) C dX11_air_22 (by decide) ?_
    obtain rfl := so_e hf
    exact e_iret (pc := 23) C hr dX11_air_23 (Nat.le_of_ble_eq_true rfl) (Nat.le_of_ble_eq_true rfl)
  · refine e_if_eq (pc := 4) (tgt := 22) C dX11_air_4 (by decide) (fun q => absurd q c4) (fun _ => ?_)
    refine e_iload_n (pc := 7) C dX11_air_7 2 rfl rfl ?_
    obtain ⟨r7, h5, y6, hf⟩ := cb_e hf
    refine e_callSi (pc := 8) (st := []) C (ct_X11_isHole y6) dX11_air_8 g948 g949 g146 g950 hd_X11_isHole rfl ⟨Nat.le_of_ble_eq_true rfl, Nat.le_of_ble_eq_true rfl⟩ ⟨Nat.le_of_ble_eq_true rfl, Nat.le_of_ble_eq_true rfl⟩ rfl (Nat.le_of_ble_eq_true rfl) ?_
    rcases it_e hf with ⟨c8, hf⟩ | ⟨c8, hf⟩
    · refine e_if_eq (pc := 11) (tgt := 22) C dX11_air_11 (by decide) (fun _ => ?_) (fun q => absurd c8 q)
      refine e_iconst (v := (-1 : Int32)) (pc := 22) C dX11_air_22 (by decide) ?_
      obtain rfl := so_e hf
      exact e_iret (pc := 23) C hr dX11_air_23 (Nat.le_of_ble_eq_true rfl) (Nat.le_of_ble_eq_true rfl)
    · refine e_if_eq (pc := 11) (tgt := 22) C dX11_air_11 (by decide) (fun q => absurd q c8) (fun _ => ?_)
      refine e_iload_n (pc := 14) C dX11_air_14 1 rfl rfl ?_
      refine e_iload_n (pc := 15) C dX11_air_15 2 rfl rfl ?_
      obtain ⟨r11, h9, y10, hf⟩ := cb_e hf
      refine e_callSi (pc := 16) (st := []) C (ct_X11_airAt y10) dX11_air_16 g951 g930 g146 g931 hd_X11_airAt rfl ⟨Nat.le_of_ble_eq_true rfl, Nat.le_of_ble_eq_true rfl⟩ ⟨Nat.le_of_ble_eq_true rfl, Nat.le_of_ble_eq_true rfl⟩ rfl (Nat.le_of_ble_eq_true rfl) ?_
      refine e_goto (pc := 19) (tgt := 23) C dX11_air_19 (by decide) ?_
      obtain rfl := so_e hf
      exact e_iret (pc := 23) C hr dX11_air_23 (Nat.le_of_ble_eq_true rfl) (Nat.le_of_ble_eq_true rfl)
theorem dX11_hasTrain_0 : decode cX11_hasTrain 0 = .ok (.aload_n 0, 1) := by decide +kernel
theorem dX11_hasTrain_1 : decode cX11_hasTrain 1 = .ok (.getfield 55, 3) := by decide +kernel
theorem dX11_hasTrain_4 : decode cX11_hasTrain 4 = .ok (.getfield 63, 3) := by decide +kernel
theorem dX11_hasTrain_7 : decode cX11_hasTrain 7 = .ok (.getfield 67, 3) := by decide +kernel
theorem dX11_hasTrain_10 : decode cX11_hasTrain 10 = .ok (.getfield 363, 3) := by decide +kernel
theorem dX11_hasTrain_13 : decode cX11_hasTrain 13 = .ok (.ireturn, 1) := by decide +kernel
noncomputable def f_X11_hasTrain (G : GG) (v0 : Nat) (h : AH) : Option (Int32 × AH) :=
ck (m_t h v0 = .inl 11) <|
ob (m_r h v0 5) fun b2 =>
ck (m_t h b2 = .inl 6) <|
ob (m_r h b2 0) fun b4 =>
ck (m_t h b4 = .inl 0) <|
ob (m_r h b4 0) fun b6 =>
ck (m_t h b6 = .inl 9) <|
ck ((m_i h b6 0) &&& 1 = m_i h b6 0) <|
some (m_i h b6 0, h)
set_option maxHeartbeats 4000000 in
set_option maxRecDepth 100000 in
theorem ct_X11_hasTrain {G : GG} {l : Launch} {v0 : Nat} {h : AH} {y : Int32 × AH} (hf : f_X11_hasTrain G v0 h = some y) : Ct G l yX11_hasTrain cX11_hasTrain 1 (some .boolean) 0 0 0 0 [.ref v0] h (some (.int y.1), y.2) := by
  refine ct_of (by decide) (Nat.le_of_ble_eq_true rfl) ?_
  intro p e s m args below meth c C hm hr hin
  have C : Cx G cX11_hasTrain RX11 p s m args meth c := C
  refine e_lv (lv2 := [(0, .ref v0)]) [0] rfl ?_
  unfold f_X11_hasTrain at hf
  refine e_aload_n (pc := 0) C dX11_hasTrain_0 0 rfl rfl ?_
  obtain ⟨t1, hf⟩ := ck_e hf
  refine e_getr (pc := 1) 11 5 C dX11_hasTrain_1 (by decide) (by decide) g578 rfl t1 ?_
  obtain ⟨b2, eb2, hf⟩ := ob_e hf
  refine e_rf eb2 ?_
  obtain ⟨t3, hf⟩ := ck_e hf
  refine e_getrN (pc := 4) 6 0 C dX11_hasTrain_4 (by decide) (by decide) g458 rfl t3 ?_
  obtain ⟨b4, eb4, hf⟩ := ob_e hf
  refine e_rf eb4 ?_
  obtain ⟨t5, hf⟩ := ck_e hf
  refine e_getrN (pc := 7) 0 0 C dX11_hasTrain_7 (by decide) (by decide) g394 rfl t5 ?_
  obtain ⟨b6, eb6, hf⟩ := ob_e hf
  refine e_rf eb6 ?_
  obtain ⟨t7, hf⟩ := ck_e hf
  refine e_getiN (pc := 10) 9 0 C dX11_hasTrain_10 (by decide) (by decide) g314 rfl t7 ?_
  obtain ⟨q8, hf⟩ := ck_e hf
  obtain rfl := so_e hf
  exact e_zret (pc := 13) (v := m_i h b6 0) C hr (nz_ok q8) dX11_hasTrain_13 (Nat.le_of_ble_eq_true rfl) (Nat.le_of_ble_eq_true rfl)
theorem dX0_sitterOf_0 : decode cX0_sitterOf 0 = .ok (.iconst 0, 1) := by decide +kernel
theorem dX0_sitterOf_1 : decode cX0_sitterOf 1 = .ok (.istore_n 2, 1) := by decide +kernel
theorem dX0_sitterOf_2 : decode cX0_sitterOf 2 = .ok (.iload_n 2, 1) := by decide +kernel
theorem dX0_sitterOf_3 : decode cX0_sitterOf 3 = .ok (.aload_n 0, 1) := by decide +kernel
theorem dX0_sitterOf_4 : decode cX0_sitterOf 4 = .ok (.getfield 41, 3) := by decide +kernel
theorem dX0_sitterOf_7 : decode cX0_sitterOf 7 = .ok (.getfield 62, 3) := by decide +kernel
theorem dX0_sitterOf_10 : decode cX0_sitterOf 10 = .ok (.if_icmp .ge 21, 3) := by decide +kernel
theorem dX0_sitterOf_13 : decode cX0_sitterOf 13 = .ok (.aload_n 0, 1) := by decide +kernel
theorem dX0_sitterOf_14 : decode cX0_sitterOf 14 = .ok (.getfield 28, 3) := by decide +kernel
theorem dX0_sitterOf_17 : decode cX0_sitterOf 17 = .ok (.iload_n 2, 1) := by decide +kernel
theorem dX0_sitterOf_18 : decode cX0_sitterOf 18 = .ok (.iaload, 1) := by decide +kernel
theorem dX0_sitterOf_19 : decode cX0_sitterOf 19 = .ok (.iload_n 1, 1) := by decide +kernel
theorem dX0_sitterOf_20 : decode cX0_sitterOf 20 = .ok (.if_icmp .ne 5, 3) := by decide +kernel
theorem dX0_sitterOf_23 : decode cX0_sitterOf 23 = .ok (.iload_n 2, 1) := by decide +kernel
theorem dX0_sitterOf_24 : decode cX0_sitterOf 24 = .ok (.ireturn, 1) := by decide +kernel
theorem dX0_sitterOf_25 : decode cX0_sitterOf 25 = .ok (.iinc 2 1, 3) := by decide +kernel
theorem dX0_sitterOf_28 : decode cX0_sitterOf 28 = .ok (.goto (-26), 3) := by decide +kernel
theorem dX0_sitterOf_31 : decode cX0_sitterOf 31 = .ok (.iconst (-1), 1) := by decide +kernel
theorem dX0_sitterOf_32 : decode cX0_sitterOf 32 = .ok (.ireturn, 1) := by decide +kernel
noncomputable def F_X0_sitterOf_2 (G : GG) (v0 : Nat) (v1 : Int32) (self_2 : Int32 → AH → Option (Int32 × AH)) (v2 : Int32) (h : AH) : Option (Int32 × AH) :=
ck (m_t h v0 = .inl 0) <|
ob (m_r h v0 0) fun b2 =>
ck (m_t h b2 = .inl 9) <|
if (m_i h b2 5) ≤ v2 then (some ((-1 : Int32), h)) else
ob (m_r h v0 6) fun b5 =>
ck (ixb h b5 .int v2 = true) <|
if (m_i h b5 v2.toNatClampNeg) = v1 then (some (v2, h)) else
nn (v2 + (1 : Int32)) fun x9 =>
self_2 x9 h
noncomputable def f_X0_sitterOf (G : GG) (v0 : Nat) (v1 : Int32) (h : AH) : Option (Int32 × AH) :=
lq1 (F_X0_sitterOf_2 G v0 v1 ) bN (0 : Int32) h
set_option maxHeartbeats 4000000 in
set_option maxRecDepth 100000 in
theorem el_X0_sitterOf_2 {G : GG} {p : Program} {l : Launch} {e : Env} {s : State} {m : MethodId} {args : Array Value} {below : List Frame} {meth : Method} {c : Code} {y : Int32 × AH} (C : Cx G cX0_sitterOf RX0 p s m args meth c) (hm : c.maxLocals = 3) (hr : meth.sig.returnType = (some .int)) (hin : meth.name = yX0_sitterOf.name) {v0 : Nat} {v1 : Int32}  :
    ∀ (n : Nat) (v2 : Int32) (h : AH), lq1 (F_X0_sitterOf_2 G v0 v1) n v2 h = some y → EE G p l e ({ frames := 0, cells := 0, slots := 0, locals := 0 } : Room) s m args below meth c (some (.int y.1), y.2) 0 0 2 [(0, .ref v0), (1, .int v1), (2, .int v2)] [] h 0 0 := by
  intro n
  induction n with
  | zero => intro v2 h hf; exact (no_e hf).elim
  | succ n ih_2 =>
    intro v2 h hf
    have hf : F_X0_sitterOf_2 G v0 v1 (lq1 (F_X0_sitterOf_2 G v0 v1) n) v2 h = some y := hf
    generalize lq1 (F_X0_sitterOf_2 G v0 v1) n = self_2 at hf ih_2
    unfold F_X0_sitterOf_2 at hf
    refine e_iload_n (pc := 2) C dX0_sitterOf_2 2 rfl rfl ?_
    refine e_aload_n (pc := 3) C dX0_sitterOf_3 0 rfl rfl ?_
    obtain ⟨t1, hf⟩ := ck_e hf
    refine e_getr (pc := 4) 0 0 C dX0_sitterOf_4 (by decide) (by decide) g393 rfl t1 ?_
    obtain ⟨b2, eb2, hf⟩ := ob_e hf
    refine e_rf eb2 ?_
    obtain ⟨t3, hf⟩ := ck_e hf
    refine e_getiN (pc := 7) 9 5 C dX0_sitterOf_7 (by decide) (by decide) g334 rfl t3 ?_
    rcases it_e hf with ⟨c4, hf⟩ | ⟨c4, hf⟩
    · refine e_icmp_ge (pc := 10) (tgt := 31) C dX0_sitterOf_10 (by decide) (fun _ => ?_) (fun q => absurd c4 q)
      refine e_iconst (v := (-1 : Int32)) (pc := 31) C dX0_sitterOf_31 (by decide) ?_
      obtain rfl := so_e hf
      exact e_iret (pc := 32) C hr dX0_sitterOf_32 (Nat.le_of_ble_eq_true rfl) (Nat.le_of_ble_eq_true rfl)
    · refine e_icmp_ge (pc := 10) (tgt := 31) C dX0_sitterOf_10 (by decide) (fun q => absurd q c4) (fun _ => ?_)
      refine e_aload_n (pc := 13) C dX0_sitterOf_13 0 rfl rfl ?_
      refine e_getr (pc := 14) 0 6 C dX0_sitterOf_14 (by decide) (by decide) g421 rfl t1 ?_
      obtain ⟨b5, eb5, hf⟩ := ob_e hf
      refine e_rf eb5 ?_
      refine e_iload_n (pc := 17) C dX0_sitterOf_17 2 rfl rfl ?_
      obtain ⟨q6, hf⟩ := ck_e hf
      obtain ⟨n7, tn7, in7⟩ := ix_e q6
      refine e_iald (pc := 18) C dX0_sitterOf_18 tn7 in7 ?_
      refine e_iload_n (pc := 19) C dX0_sitterOf_19 1 rfl rfl ?_
      rcases it_e hf with ⟨c8, hf⟩ | ⟨c8, hf⟩
      · refine e_icmp_ne (pc := 20) (tgt := 25) C dX0_sitterOf_20 (by decide) (fun q => absurd c8 q) (fun _ => ?_)
        refine e_iload_n (pc := 23) C dX0_sitterOf_23 2 rfl rfl ?_
        obtain rfl := so_e hf
        exact e_iret (pc := 24) C hr dX0_sitterOf_24 (Nat.le_of_ble_eq_true rfl) (Nat.le_of_ble_eq_true rfl)
      · refine e_icmp_ne (pc := 20) (tgt := 25) C dX0_sitterOf_20 (by decide) (fun _ => ?_) (fun q => absurd q c8)
        obtain ⟨x9, ex9, hf⟩ := nn_e hf
        refine e_iinc (pc := 25) (v := x9) (lv2 := [(2, .int x9), (0, .ref v0), (1, .int v1)]) C hm dX0_sitterOf_25 2 rfl (by rw [ex9]; rfl) (by decide) rfl ?_
        refine e_goto (pc := 28) (tgt := 2) C dX0_sitterOf_28 (by decide) ?_
        refine e_lv (lv2 := [(0, .ref v0), (1, .int v1), (2, .int x9)]) [1, 2, 0] rfl ?_
        exact ih_2 x9 h hf
set_option maxHeartbeats 4000000 in
set_option maxRecDepth 100000 in
theorem ct_X0_sitterOf {G : GG} {l : Launch} {v0 : Nat} {v1 : Int32} {h : AH} {y : Int32 × AH} (hf : f_X0_sitterOf G v0 v1 h = some y) : Ct G l yX0_sitterOf cX0_sitterOf 3 (some .int) 0 0 0 0 [.ref v0, .int v1] h (some (.int y.1), y.2) := by
  refine ct_of (by decide) (Nat.le_of_ble_eq_true rfl) ?_
  intro p e s m args below meth c C hm hr hin
  have C : Cx G cX0_sitterOf RX0 p s m args meth c := C
  refine e_lv (lv2 := [(0, .ref v0), (1, .int v1)]) [0, 1] rfl ?_
  unfold f_X0_sitterOf at hf
  refine e_iconst (v := (0 : Int32)) (pc := 0) C dX0_sitterOf_0 (by decide) ?_
  refine e_istore_n (pc := 1) (lv2 := [(2, .int (0 : Int32)), (0, .ref v0), (1, .int v1)]) C hm dX0_sitterOf_1 rfl (by decide) rfl ?_
  refine e_lv (lv2 := [(0, .ref v0), (1, .int v1), (2, .int (0 : Int32))]) [1, 2, 0] rfl ?_
  exact el_X0_sitterOf_2 C hm hr hin bN (0 : Int32) h hf
theorem dX11_seat_0 : decode cX11_seat 0 = .ok (.aload_n 0, 1) := by decide +kernel
theorem dX11_seat_1 : decode cX11_seat 1 = .ok (.invokevirtual 187, 3) := by decide +kernel
theorem dX11_seat_4 : decode cX11_seat 4 = .ok (.ifCond .eq 24, 3) := by decide +kernel
theorem dX11_seat_7 : decode cX11_seat 7 = .ok (.iload_n 1, 1) := by decide +kernel
theorem dX11_seat_8 : decode cX11_seat 8 = .ok (.invokestatic 178, 3) := by decide +kernel
theorem dX11_seat_11 : decode cX11_seat 11 = .ok (.ifCond .eq 17, 3) := by decide +kernel
theorem dX11_seat_14 : decode cX11_seat 14 = .ok (.aload_n 0, 1) := by decide +kernel
theorem dX11_seat_15 : decode cX11_seat 15 = .ok (.getfield 55, 3) := by decide +kernel
theorem dX11_seat_18 : decode cX11_seat 18 = .ok (.getfield 63, 3) := by decide +kernel
theorem dX11_seat_21 : decode cX11_seat 21 = .ok (.iload_n 1, 1) := by decide +kernel
theorem dX11_seat_22 : decode cX11_seat 22 = .ok (.invokevirtual 191, 3) := by decide +kernel
theorem dX11_seat_25 : decode cX11_seat 25 = .ok (.goto 5, 3) := by decide +kernel
theorem dX11_seat_28 : decode cX11_seat 28 = .ok (.bipush (-2), 2) := by decide +kernel
theorem dX11_seat_30 : decode cX11_seat 30 = .ok (.ireturn, 1) := by decide +kernel
noncomputable def f_X11_seat (G : GG) (v0 : Nat) (v1 : Int32) (h : AH) : Option (Int32 × AH) :=
ck (m_t h v0 = .inl 11) <|
cb (f_X11_hasTrain G v0 h) fun r4 h2 =>
if r4 = 0 then (some ((-2 : Int32), h2)) else
cb (f_X11_isSeat G v1 h2) fun r8 h6 =>
if r8 = 0 then (some ((-2 : Int32), h6)) else
ck (m_t h6 v0 = .inl 11) <|
ob (m_r h6 v0 5) fun b11 =>
ck (m_t h6 b11 = .inl 6) <|
ob (m_r h6 b11 0) fun b13 =>
ck (m_t h6 b13 = .inl 0) <|
cb (f_X0_sitterOf G b13 v1 h6) fun r17 h15 =>
some (r17, h15)
set_option maxHeartbeats 4000000 in
set_option maxRecDepth 100000 in
theorem ct_X11_seat {G : GG} {l : Launch} {v0 : Nat} {v1 : Int32} {h : AH} {y : Int32 × AH} (hf : f_X11_seat G v0 v1 h = some y) : Ct G l yX11_seat cX11_seat 2 (some .int) 1 22 0 0 [.ref v0, .int v1] h (some (.int y.1), y.2) := by
  refine ct_of (by decide) (Nat.le_of_ble_eq_true rfl) ?_
  intro p e s m args below meth c C hm hr hin
  have C : Cx G cX11_seat RX11 p s m args meth c := C
  refine e_lv (lv2 := [(0, .ref v0), (1, .int v1)]) [0, 1] rfl ?_
  unfold f_X11_seat at hf
  refine e_aload_n (pc := 0) C dX11_seat_0 0 rfl rfl ?_
  obtain ⟨t1, hf⟩ := ck_e hf
  obtain ⟨r4, h2, y3, hf⟩ := cb_e hf
  refine e_callVi (pc := 1) (st := []) 11 C (ct_X11_hasTrain y3) dX11_seat_1 (by decide) t1 g956 g958 g24 g146 g959 hd_X11_hasTrain rfl ⟨Nat.le_of_ble_eq_true rfl, Nat.le_of_ble_eq_true rfl⟩ ⟨Nat.le_of_ble_eq_true rfl, Nat.le_of_ble_eq_true rfl⟩ rfl (Nat.le_of_ble_eq_true rfl) ?_
  rcases it_e hf with ⟨c5, hf⟩ | ⟨c5, hf⟩
  · refine e_if_eq (pc := 4) (tgt := 28) C dX11_seat_4 (by decide) (fun _ => ?_) (fun q => absurd c5 q)
    refine e_bipush (v := (-2 : Int32)) (pc := 28) C dX11_seat_28 (by decide) ?_
    obtain rfl := so_e hf
    exact e_iret (pc := 30) C hr dX11_seat_30 (Nat.le_of_ble_eq_true rfl) (Nat.le_of_ble_eq_true rfl)
  · refine e_if_eq (pc := 4) (tgt := 28) C dX11_seat_4 (by decide) (fun q => absurd q c5) (fun _ => ?_)
    refine e_iload_n (pc := 7) C dX11_seat_7 1 rfl rfl ?_
    obtain ⟨r8, h6, y7, hf⟩ := cb_e hf
    refine e_callSi (pc := 8) (st := []) C (ct_X11_isSeat y7) dX11_seat_8 g945 g946 g146 g947 hd_X11_isSeat rfl ⟨Nat.le_of_ble_eq_true rfl, Nat.le_of_ble_eq_true rfl⟩ ⟨Nat.le_of_ble_eq_true rfl, Nat.le_of_ble_eq_true rfl⟩ rfl (Nat.le_of_ble_eq_true rfl) ?_
    rcases it_e hf with ⟨c9, hf⟩ | ⟨c9, hf⟩
    · refine e_if_eq (pc := 11) (tgt := 28) C dX11_seat_11 (by decide) (fun _ => ?_) (fun q => absurd c9 q)
      refine e_bipush (v := (-2 : Int32)) (pc := 28) C dX11_seat_28 (by decide) ?_
      obtain rfl := so_e hf
      exact e_iret (pc := 30) C hr dX11_seat_30 (Nat.le_of_ble_eq_true rfl) (Nat.le_of_ble_eq_true rfl)
    · refine e_if_eq (pc := 11) (tgt := 28) C dX11_seat_11 (by decide) (fun q => absurd q c9) (fun _ => ?_)
      refine e_aload_n (pc := 14) C dX11_seat_14 0 rfl rfl ?_
      obtain ⟨t10, hf⟩ := ck_e hf
      refine e_getr (pc := 15) 11 5 C dX11_seat_15 (by decide) (by decide) g578 rfl t10 ?_
      obtain ⟨b11, eb11, hf⟩ := ob_e hf
      refine e_rf eb11 ?_
      obtain ⟨t12, hf⟩ := ck_e hf
      refine e_getrN (pc := 18) 6 0 C dX11_seat_18 (by decide) (by decide) g458 rfl t12 ?_
      obtain ⟨b13, eb13, hf⟩ := ob_e hf
      refine e_rf eb13 ?_
      refine e_iload_n (pc := 21) C dX11_seat_21 1 rfl rfl ?_
      obtain ⟨t14, hf⟩ := ck_e hf
      obtain ⟨r17, h15, y16, hf⟩ := cb_e hf
      refine e_callVi (pc := 22) (st := []) 0 C (ct_X0_sitterOf y16) dX11_seat_22 (by decide) t14 g960 g961 g962 g151 g963 hd_X0_sitterOf rfl ⟨Nat.le_of_ble_eq_true rfl, Nat.le_of_ble_eq_true rfl⟩ ⟨Nat.le_of_ble_eq_true rfl, Nat.le_of_ble_eq_true rfl⟩ rfl (Nat.le_of_ble_eq_true rfl) ?_
      refine e_goto (pc := 25) (tgt := 30) C dX11_seat_25 (by decide) ?_
      obtain rfl := so_e hf
      exact e_iret (pc := 30) C hr dX11_seat_30 (Nat.le_of_ble_eq_true rfl) (Nat.le_of_ble_eq_true rfl)
theorem dX11_stretch_0 : decode cX11_stretch 0 = .ok (.aload_n 0, 1) := by decide +kernel
theorem dX11_stretch_1 : decode cX11_stretch 1 = .ok (.invokevirtual 187, 3) := by decide +kernel
theorem dX11_stretch_4 : decode cX11_stretch 4 = .ok (.ifCond .eq 23, 3) := by decide +kernel
theorem dX11_stretch_7 : decode cX11_stretch 7 = .ok (.iload_n 1, 1) := by decide +kernel
theorem dX11_stretch_8 : decode cX11_stretch 8 = .ok (.ifCond .lt 19, 3) := by decide +kernel
theorem dX11_stretch_11 : decode cX11_stretch 11 = .ok (.iload_n 1, 1) := by decide +kernel
theorem dX11_stretch_12 : decode cX11_stretch 12 = .ok (.sipush 240, 3) := by decide +kernel
theorem dX11_stretch_15 : decode cX11_stretch 15 = .ok (.if_icmp .ge 12, 3) := by decide +kernel
theorem dX11_stretch_18 : decode cX11_stretch 18 = .ok (.iload_n 2, 1) := by decide +kernel
theorem dX11_stretch_19 : decode cX11_stretch 19 = .ok (.ifCond .lt 8, 3) := by decide +kernel
theorem dX11_stretch_22 : decode cX11_stretch 22 = .ok (.iload_n 2, 1) := by decide +kernel
theorem dX11_stretch_23 : decode cX11_stretch 23 = .ok (.iconst 1, 1) := by decide +kernel
theorem dX11_stretch_24 : decode cX11_stretch 24 = .ok (.if_icmp .le 5, 3) := by decide +kernel
theorem dX11_stretch_27 : decode cX11_stretch 27 = .ok (.iconst (-1), 1) := by decide +kernel
theorem dX11_stretch_28 : decode cX11_stretch 28 = .ok (.ireturn, 1) := by decide +kernel
theorem dX11_stretch_29 : decode cX11_stretch 29 = .ok (.iload_n 2, 1) := by decide +kernel
theorem dX11_stretch_30 : decode cX11_stretch 30 = .ok (.iconst 1, 1) := by decide +kernel
theorem dX11_stretch_31 : decode cX11_stretch 31 = .ok (.if_icmp .ne 18, 3) := by decide +kernel
theorem dX11_stretch_34 : decode cX11_stretch 34 = .ok (.aload_n 0, 1) := by decide +kernel
theorem dX11_stretch_35 : decode cX11_stretch 35 = .ok (.getfield 55, 3) := by decide +kernel
theorem dX11_stretch_38 : decode cX11_stretch 38 = .ok (.getfield 63, 3) := by decide +kernel
theorem dX11_stretch_41 : decode cX11_stretch 41 = .ok (.getfield 67, 3) := by decide +kernel
theorem dX11_stretch_44 : decode cX11_stretch 44 = .ok (.iload_n 1, 1) := by decide +kernel
theorem dX11_stretch_45 : decode cX11_stretch 45 = .ok (.invokevirtual 194, 3) := by decide +kernel
theorem dX11_stretch_48 : decode cX11_stretch 48 = .ok (.ireturn, 1) := by decide +kernel
theorem dX11_stretch_49 : decode cX11_stretch 49 = .ok (.aload_n 0, 1) := by decide +kernel
theorem dX11_stretch_50 : decode cX11_stretch 50 = .ok (.getfield 55, 3) := by decide +kernel
theorem dX11_stretch_53 : decode cX11_stretch 53 = .ok (.getfield 63, 3) := by decide +kernel
theorem dX11_stretch_56 : decode cX11_stretch 56 = .ok (.getfield 67, 3) := by decide +kernel
theorem dX11_stretch_59 : decode cX11_stretch 59 = .ok (.iload_n 1, 1) := by decide +kernel
theorem dX11_stretch_60 : decode cX11_stretch 60 = .ok (.invokevirtual 197, 3) := by decide +kernel
theorem dX11_stretch_63 : decode cX11_stretch 63 = .ok (.ifCond .eq 7, 3) := by decide +kernel
theorem dX11_stretch_66 : decode cX11_stretch 66 = .ok (.iconst 1, 1) := by decide +kernel
theorem dX11_stretch_67 : decode cX11_stretch 67 = .ok (.goto 4, 3) := by decide +kernel
theorem dX11_stretch_70 : decode cX11_stretch 70 = .ok (.iconst 0, 1) := by decide +kernel
theorem dX11_stretch_71 : decode cX11_stretch 71 = .ok (.ireturn, 1) := by decide +kernel
noncomputable def f_X11_stretch (G : GG) (v0 : Nat) (v1 : Int32) (v2 : Int32) (h : AH) : Option (Int32 × AH) :=
ck (m_t h v0 = .inl 11) <|
cb (f_X11_hasTrain G v0 h) fun r4 h2 =>
if r4 = 0 then (some ((-1 : Int32), h2)) else
if v1 < 0 then (some ((-1 : Int32), h2)) else
if (240 : Int32) ≤ v1 then (some ((-1 : Int32), h2)) else
if v2 < 0 then (some ((-1 : Int32), h2)) else
if v2 ≤ (1 : Int32) then (if v2 = (1 : Int32) then (ck (m_t h2 v0 = .inl 11) <|
ob (m_r h2 v0 5) fun b12 =>
ck (m_t h2 b12 = .inl 6) <|
ob (m_r h2 b12 0) fun b14 =>
ck (m_t h2 b14 = .inl 0) <|
ob (m_r h2 b14 0) fun b16 =>
ck (m_t h2 b16 = .inl 9) <|
cb (f_X9_coldAt G b16 v1 h2) fun r20 h18 =>
some (r20, h18)) else
ck (m_t h2 v0 = .inl 11) <|
ob (m_r h2 v0 5) fun b22 =>
ck (m_t h2 b22 = .inl 6) <|
ob (m_r h2 b22 0) fun b24 =>
ck (m_t h2 b24 = .inl 0) <|
ob (m_r h2 b24 0) fun b26 =>
ck (m_t h2 b26 = .inl 9) <|
cb (f_X9_isTunnel G b26 v1 h2) fun r30 h28 =>
if r30 = 0 then (some ((0 : Int32), h28)) else
some ((1 : Int32), h28)) else
some ((-1 : Int32), h2)
set_option maxHeartbeats 4000000 in
set_option maxRecDepth 100000 in
theorem ct_X11_stretch {G : GG} {l : Launch} {v0 : Nat} {v1 : Int32} {v2 : Int32} {h : AH} {y : Int32 × AH} (hf : f_X11_stretch G v0 v1 v2 h = some y) : Ct G l yX11_stretch cX11_stretch 3 (some .int) 1 23 0 0 [.ref v0, .int v1, .int v2] h (some (.int y.1), y.2) := by
  refine ct_of (by decide) (Nat.le_of_ble_eq_true rfl) ?_
  intro p e s m args below meth c C hm hr hin
  have C : Cx G cX11_stretch RX11 p s m args meth c := C
  refine e_lv (lv2 := [(0, .ref v0), (1, .int v1), (2, .int v2)]) [0, 1, 2] rfl ?_
  unfold f_X11_stretch at hf
  refine e_aload_n (pc := 0) C dX11_stretch_0 0 rfl rfl ?_
  obtain ⟨t1, hf⟩ := ck_e hf
  obtain ⟨r4, h2, y3, hf⟩ := cb_e hf
  refine e_callVi (pc := 1) (st := []) 11 C (ct_X11_hasTrain y3) dX11_stretch_1 (by decide) t1 g956 g958 g24 g146 g959 hd_X11_hasTrain rfl ⟨Nat.le_of_ble_eq_true rfl, Nat.le_of_ble_eq_true rfl⟩ ⟨Nat.le_of_ble_eq_true rfl, Nat.le_of_ble_eq_true rfl⟩ rfl (Nat.le_of_ble_eq_true rfl) ?_
  rcases it_e hf with ⟨c5, hf⟩ | ⟨c5, hf⟩
  · refine e_if_eq (pc := 4) (tgt := 27) C dX11_stretch_4 (by decide) (fun _ => ?_) (fun q => absurd c5 q)
    refine e_iconst (v := (-1 : Int32)) (pc := 27) C dX11_stretch_27 (by decide) ?_
    obtain rfl := so_e hf
    exact e_iret (pc := 28) C hr dX11_stretch_28 (Nat.le_of_ble_eq_true rfl) (Nat.le_of_ble_eq_true rfl)
  · refine e_if_eq (pc := 4) (tgt := 27) C dX11_stretch_4 (by decide) (fun q => absurd q c5) (fun _ => ?_)
    refine e_iload_n (pc := 7) C dX11_stretch_7 1 rfl rfl ?_
    rcases it_e hf with ⟨c6, hf⟩ | ⟨c6, hf⟩
    · refine e_if_lt (pc := 8) (tgt := 27) C dX11_stretch_8 (by decide) (fun _ => ?_) (fun q => absurd c6 q)
      refine e_iconst (v := (-1 : Int32)) (pc := 27) C dX11_stretch_27 (by decide) ?_
      obtain rfl := so_e hf
      exact e_iret (pc := 28) C hr dX11_stretch_28 (Nat.le_of_ble_eq_true rfl) (Nat.le_of_ble_eq_true rfl)
    · refine e_if_lt (pc := 8) (tgt := 27) C dX11_stretch_8 (by decide) (fun q => absurd q c6) (fun _ => ?_)
      refine e_iload_n (pc := 11) C dX11_stretch_11 1 rfl rfl ?_
      refine e_sipush (v := (240 : Int32)) (pc := 12) C dX11_stretch_12 (by decide) ?_
      rcases it_e hf with ⟨c7, hf⟩ | ⟨c7, hf⟩
      · refine e_icmp_ge (pc := 15) (tgt := 27) C dX11_stretch_15 (by decide) (fun _ => ?_) (fun q => absurd c7 q)
        refine e_iconst (v := (-1 : Int32)) (pc := 27) C dX11_stretch_27 (by decide) ?_
        obtain rfl := so_e hf
        exact e_iret (pc := 28) C hr dX11_stretch_28 (Nat.le_of_ble_eq_true rfl) (Nat.le_of_ble_eq_true rfl)
      · refine e_icmp_ge (pc := 15) (tgt := 27) C dX11_stretch_15 (by decide) (fun q => absurd q c7) (fun _ => ?_)
        refine e_iload_n (pc := 18) C dX11_stretch_18 2 rfl rfl ?_
        rcases it_e hf with ⟨c8, hf⟩ | ⟨c8, hf⟩
        · refine e_if_lt (pc := 19) (tgt := 27) C dX11_stretch_19 (by decide) (fun _ => ?_) (fun q => absurd c8 q)
          refine e_iconst (v := (-1 : Int32)) (pc := 27) C dX11_stretch_27 (by decide) ?_
          obtain rfl := so_e hf
          exact e_iret (pc := 28) C hr dX11_stretch_28 (Nat.le_of_ble_eq_true rfl) (Nat.le_of_ble_eq_true rfl)
        · refine e_if_lt (pc := 19) (tgt := 27) C dX11_stretch_19 (by decide) (fun q => absurd q c8) (fun _ => ?_)
          refine e_iload_n (pc := 22) C dX11_stretch_22 2 rfl rfl ?_
          refine e_iconst (v := (1 : Int32)) (pc := 23) C dX11_stretch_23 (by decide) ?_
          rcases it_e hf with ⟨c9, hf⟩ | ⟨c9, hf⟩
          · refine e_icmp_le (pc := 24) (tgt := 29) C dX11_stretch_24 (by decide) (fun _ => ?_) (fun q => absurd c9 q)
            refine e_iload_n (pc := 29) C dX11_stretch_29 2 rfl rfl ?_
            refine e_iconst (v := (1 : Int32)) (pc := 30) C dX11_stretch_30 (by decide) ?_
            rcases it_e hf with ⟨c10, hf⟩ | ⟨c10, hf⟩
            · refine e_icmp_ne (pc := 31) (tgt := 49) C dX11_stretch_31 (by decide) (fun q => absurd c10 q) (fun _ => ?_)
              refine e_aload_n (pc := 34) C dX11_stretch_34 0 rfl rfl ?_
              obtain ⟨t11, hf⟩ := ck_e hf
              refine e_getr (pc := 35) 11 5 C dX11_stretch_35 (by decide) (by decide) g578 rfl t11 ?_
              obtain ⟨b12, eb12, hf⟩ := ob_e hf
              refine e_rf eb12 ?_
              obtain ⟨t13, hf⟩ := ck_e hf
              refine e_getrN (pc := 38) 6 0 C dX11_stretch_38 (by decide) (by decide) g458 rfl t13 ?_
              obtain ⟨b14, eb14, hf⟩ := ob_e hf
              refine e_rf eb14 ?_
              obtain ⟨t15, hf⟩ := ck_e hf
              refine e_getrN (pc := 41) 0 0 C dX11_stretch_41 (by decide) (by decide) g394 rfl t15 ?_
              obtain ⟨b16, eb16, hf⟩ := ob_e hf
              refine e_rf eb16 ?_
              refine e_iload_n (pc := 44) C dX11_stretch_44 1 rfl rfl ?_
              obtain ⟨t17, hf⟩ := ck_e hf
              obtain ⟨r20, h18, y19, hf⟩ := cb_e hf
              refine e_callVi (pc := 45) (st := []) 9 C (ct_X9_coldAt y19) dX11_stretch_45 (by decide) t17 g968 g969 g970 g152 g971 hd_X9_coldAt rfl ⟨Nat.le_of_ble_eq_true rfl, Nat.le_of_ble_eq_true rfl⟩ ⟨Nat.le_of_ble_eq_true rfl, Nat.le_of_ble_eq_true rfl⟩ rfl (Nat.le_of_ble_eq_true rfl) ?_
              obtain rfl := so_e hf
              exact e_iret (pc := 48) C hr dX11_stretch_48 (Nat.le_of_ble_eq_true rfl) (Nat.le_of_ble_eq_true rfl)
            · refine e_icmp_ne (pc := 31) (tgt := 49) C dX11_stretch_31 (by decide) (fun _ => ?_) (fun q => absurd q c10)
              refine e_aload_n (pc := 49) C dX11_stretch_49 0 rfl rfl ?_
              obtain ⟨t21, hf⟩ := ck_e hf
              refine e_getr (pc := 50) 11 5 C dX11_stretch_50 (by decide) (by decide) g578 rfl t21 ?_
              obtain ⟨b22, eb22, hf⟩ := ob_e hf
              refine e_rf eb22 ?_
              obtain ⟨t23, hf⟩ := ck_e hf
              refine e_getrN (pc := 53) 6 0 C dX11_stretch_53 (by decide) (by decide) g458 rfl t23 ?_
              obtain ⟨b24, eb24, hf⟩ := ob_e hf
              refine e_rf eb24 ?_
              obtain ⟨t25, hf⟩ := ck_e hf
              refine e_getrN (pc := 56) 0 0 C dX11_stretch_56 (by decide) (by decide) g394 rfl t25 ?_
              obtain ⟨b26, eb26, hf⟩ := ob_e hf
              refine e_rf eb26 ?_
              refine e_iload_n (pc := 59) C dX11_stretch_59 1 rfl rfl ?_
              obtain ⟨t27, hf⟩ := ck_e hf
              obtain ⟨r30, h28, y29, hf⟩ := cb_e hf
              refine e_callVi (pc := 60) (st := []) 9 C (ct_X9_isTunnel y29) dX11_stretch_60 (by decide) t27 g972 g938 g939 g152 g940 hd_X9_isTunnel rfl ⟨Nat.le_of_ble_eq_true rfl, Nat.le_of_ble_eq_true rfl⟩ ⟨Nat.le_of_ble_eq_true rfl, Nat.le_of_ble_eq_true rfl⟩ rfl (Nat.le_of_ble_eq_true rfl) ?_
              rcases it_e hf with ⟨c31, hf⟩ | ⟨c31, hf⟩
              · refine e_if_eq (pc := 63) (tgt := 70) C dX11_stretch_63 (by decide) (fun _ => ?_) (fun q => absurd c31 q)
                refine e_iconst (v := (0 : Int32)) (pc := 70) C dX11_stretch_70 (by decide) ?_
                obtain rfl := so_e hf
                exact e_iret (pc := 71) C hr dX11_stretch_71 (Nat.le_of_ble_eq_true rfl) (Nat.le_of_ble_eq_true rfl)
              · refine e_if_eq (pc := 63) (tgt := 70) C dX11_stretch_63 (by decide) (fun q => absurd q c31) (fun _ => ?_)
                refine e_iconst (v := (1 : Int32)) (pc := 66) C dX11_stretch_66 (by decide) ?_
                refine e_goto (pc := 67) (tgt := 71) C dX11_stretch_67 (by decide) ?_
                obtain rfl := so_e hf
                exact e_iret (pc := 71) C hr dX11_stretch_71 (Nat.le_of_ble_eq_true rfl) (Nat.le_of_ble_eq_true rfl)
          · refine e_icmp_le (pc := 24) (tgt := 29) C dX11_stretch_24 (by decide) (fun q => absurd q c9) (fun _ => ?_)
            refine e_iconst (v := (-1 : Int32)) (pc := 27) C dX11_stretch_27 (by decide) ?_
            obtain rfl := so_e hf
            exact e_iret (pc := 28) C hr dX11_stretch_28 (Nat.le_of_ble_eq_true rfl) (Nat.le_of_ble_eq_true rfl)
theorem dX11_milesLeft_0 : decode cX11_milesLeft 0 = .ok (.sipush 240, 3) := by decide +kernel
theorem dX11_milesLeft_3 : decode cX11_milesLeft 3 = .ok (.aload_n 0, 1) := by decide +kernel
theorem dX11_milesLeft_4 : decode cX11_milesLeft 4 = .ok (.getfield 55, 3) := by decide +kernel
theorem dX11_milesLeft_7 : decode cX11_milesLeft 7 = .ok (.getfield 63, 3) := by decide +kernel
theorem dX11_milesLeft_10 : decode cX11_milesLeft 10 = .ok (.getfield 358, 3) := by decide +kernel
theorem dX11_milesLeft_13 : decode cX11_milesLeft 13 = .ok (.isub, 1) := by decide +kernel
theorem dX11_milesLeft_14 : decode cX11_milesLeft 14 = .ok (.ireturn, 1) := by decide +kernel
noncomputable def f_X11_milesLeft (G : GG) (v0 : Nat) (h : AH) : Option (Int32 × AH) :=
ck (m_t h v0 = .inl 11) <|
ob (m_r h v0 5) fun b2 =>
ck (m_t h b2 = .inl 6) <|
ob (m_r h b2 0) fun b4 =>
ck (m_t h b4 = .inl 0) <|
some ((240 : Int32) - (m_i h b4 4), h)
set_option maxHeartbeats 4000000 in
set_option maxRecDepth 100000 in
theorem ct_X11_milesLeft {G : GG} {l : Launch} {v0 : Nat} {h : AH} {y : Int32 × AH} (hf : f_X11_milesLeft G v0 h = some y) : Ct G l yX11_milesLeft cX11_milesLeft 1 (some .int) 0 0 0 0 [.ref v0] h (some (.int y.1), y.2) := by
  refine ct_of (by decide) (Nat.le_of_ble_eq_true rfl) ?_
  intro p e s m args below meth c C hm hr hin
  have C : Cx G cX11_milesLeft RX11 p s m args meth c := C
  refine e_lv (lv2 := [(0, .ref v0)]) [0] rfl ?_
  unfold f_X11_milesLeft at hf
  refine e_sipush (v := (240 : Int32)) (pc := 0) C dX11_milesLeft_0 (by decide) ?_
  refine e_aload_n (pc := 3) C dX11_milesLeft_3 0 rfl rfl ?_
  obtain ⟨t1, hf⟩ := ck_e hf
  refine e_getr (pc := 4) 11 5 C dX11_milesLeft_4 (by decide) (by decide) g578 rfl t1 ?_
  obtain ⟨b2, eb2, hf⟩ := ob_e hf
  refine e_rf eb2 ?_
  obtain ⟨t3, hf⟩ := ck_e hf
  refine e_getrN (pc := 7) 6 0 C dX11_milesLeft_7 (by decide) (by decide) g458 rfl t3 ?_
  obtain ⟨b4, eb4, hf⟩ := ob_e hf
  refine e_rf eb4 ?_
  obtain ⟨t5, hf⟩ := ck_e hf
  refine e_getiN (pc := 10) 0 4 C dX11_milesLeft_10 (by decide) (by decide) g415 rfl t5 ?_
  refine e_isub (pc := 13) C dX11_milesLeft_13 ?_
  obtain rfl := so_e hf
  exact e_iret (pc := 14) C hr dX11_milesLeft_14 (Nat.le_of_ble_eq_true rfl) (Nat.le_of_ble_eq_true rfl)
theorem dX0_copyFrom_0 : decode cX0_copyFrom 0 = .ok (.aload_n 0, 1) := by decide +kernel
theorem dX0_copyFrom_1 : decode cX0_copyFrom 1 = .ok (.aload_n 1, 1) := by decide +kernel
theorem dX0_copyFrom_2 : decode cX0_copyFrom 2 = .ok (.getfield 41, 3) := by decide +kernel
theorem dX0_copyFrom_5 : decode cX0_copyFrom 5 = .ok (.putfield 41, 3) := by decide +kernel
theorem dX0_copyFrom_8 : decode cX0_copyFrom 8 = .ok (.aload_n 0, 1) := by decide +kernel
theorem dX0_copyFrom_9 : decode cX0_copyFrom 9 = .ok (.aload_n 1, 1) := by decide +kernel
theorem dX0_copyFrom_10 : decode cX0_copyFrom 10 = .ok (.getfield 15, 3) := by decide +kernel
theorem dX0_copyFrom_13 : decode cX0_copyFrom 13 = .ok (.putfield 15, 3) := by decide +kernel
theorem dX0_copyFrom_16 : decode cX0_copyFrom 16 = .ok (.aload_n 0, 1) := by decide +kernel
theorem dX0_copyFrom_17 : decode cX0_copyFrom 17 = .ok (.aload_n 1, 1) := by decide +kernel
theorem dX0_copyFrom_18 : decode cX0_copyFrom 18 = .ok (.getfield 19, 3) := by decide +kernel
theorem dX0_copyFrom_21 : decode cX0_copyFrom 21 = .ok (.putfield 19, 3) := by decide +kernel
theorem dX0_copyFrom_24 : decode cX0_copyFrom 24 = .ok (.aload_n 0, 1) := by decide +kernel
theorem dX0_copyFrom_25 : decode cX0_copyFrom 25 = .ok (.aload_n 1, 1) := by decide +kernel
theorem dX0_copyFrom_26 : decode cX0_copyFrom 26 = .ok (.getfield 22, 3) := by decide +kernel
theorem dX0_copyFrom_29 : decode cX0_copyFrom 29 = .ok (.putfield 22, 3) := by decide +kernel
theorem dX0_copyFrom_32 : decode cX0_copyFrom 32 = .ok (.aload_n 0, 1) := by decide +kernel
theorem dX0_copyFrom_33 : decode cX0_copyFrom 33 = .ok (.aload_n 1, 1) := by decide +kernel
theorem dX0_copyFrom_34 : decode cX0_copyFrom 34 = .ok (.getfield 25, 3) := by decide +kernel
theorem dX0_copyFrom_37 : decode cX0_copyFrom 37 = .ok (.putfield 25, 3) := by decide +kernel
theorem dX0_copyFrom_40 : decode cX0_copyFrom 40 = .ok (.aload_n 1, 1) := by decide +kernel
theorem dX0_copyFrom_41 : decode cX0_copyFrom 41 = .ok (.getfield 28, 3) := by decide +kernel
theorem dX0_copyFrom_44 : decode cX0_copyFrom 44 = .ok (.iconst 0, 1) := by decide +kernel
theorem dX0_copyFrom_45 : decode cX0_copyFrom 45 = .ok (.aload_n 0, 1) := by decide +kernel
theorem dX0_copyFrom_46 : decode cX0_copyFrom 46 = .ok (.getfield 28, 3) := by decide +kernel
theorem dX0_copyFrom_49 : decode cX0_copyFrom 49 = .ok (.iconst 0, 1) := by decide +kernel
theorem dX0_copyFrom_50 : decode cX0_copyFrom 50 = .ok (.bipush 8, 2) := by decide +kernel
theorem dX0_copyFrom_52 : decode cX0_copyFrom 52 = .ok (.invokestatic 77, 3) := by decide +kernel
theorem dX0_copyFrom_55 : decode cX0_copyFrom 55 = .ok (.aload_n 1, 1) := by decide +kernel
theorem dX0_copyFrom_56 : decode cX0_copyFrom 56 = .ok (.getfield 32, 3) := by decide +kernel
theorem dX0_copyFrom_59 : decode cX0_copyFrom 59 = .ok (.iconst 0, 1) := by decide +kernel
theorem dX0_copyFrom_60 : decode cX0_copyFrom 60 = .ok (.aload_n 0, 1) := by decide +kernel
theorem dX0_copyFrom_61 : decode cX0_copyFrom 61 = .ok (.getfield 32, 3) := by decide +kernel
theorem dX0_copyFrom_64 : decode cX0_copyFrom 64 = .ok (.iconst 0, 1) := by decide +kernel
theorem dX0_copyFrom_65 : decode cX0_copyFrom 65 = .ok (.bipush 8, 2) := by decide +kernel
theorem dX0_copyFrom_67 : decode cX0_copyFrom 67 = .ok (.invokestatic 77, 3) := by decide +kernel
theorem dX0_copyFrom_70 : decode cX0_copyFrom 70 = .ok (.aload_n 1, 1) := by decide +kernel
theorem dX0_copyFrom_71 : decode cX0_copyFrom 71 = .ok (.getfield 35, 3) := by decide +kernel
theorem dX0_copyFrom_74 : decode cX0_copyFrom 74 = .ok (.iconst 0, 1) := by decide +kernel
theorem dX0_copyFrom_75 : decode cX0_copyFrom 75 = .ok (.aload_n 0, 1) := by decide +kernel
theorem dX0_copyFrom_76 : decode cX0_copyFrom 76 = .ok (.getfield 35, 3) := by decide +kernel
theorem dX0_copyFrom_79 : decode cX0_copyFrom 79 = .ok (.iconst 0, 1) := by decide +kernel
theorem dX0_copyFrom_80 : decode cX0_copyFrom 80 = .ok (.bipush 8, 2) := by decide +kernel
theorem dX0_copyFrom_82 : decode cX0_copyFrom 82 = .ok (.invokestatic 77, 3) := by decide +kernel
theorem dX0_copyFrom_85 : decode cX0_copyFrom 85 = .ok (.aload_n 1, 1) := by decide +kernel
theorem dX0_copyFrom_86 : decode cX0_copyFrom 86 = .ok (.getfield 38, 3) := by decide +kernel
theorem dX0_copyFrom_89 : decode cX0_copyFrom 89 = .ok (.iconst 0, 1) := by decide +kernel
theorem dX0_copyFrom_90 : decode cX0_copyFrom 90 = .ok (.aload_n 0, 1) := by decide +kernel
theorem dX0_copyFrom_91 : decode cX0_copyFrom 91 = .ok (.getfield 38, 3) := by decide +kernel
theorem dX0_copyFrom_94 : decode cX0_copyFrom 94 = .ok (.iconst 0, 1) := by decide +kernel
theorem dX0_copyFrom_95 : decode cX0_copyFrom 95 = .ok (.bipush 8, 2) := by decide +kernel
theorem dX0_copyFrom_97 : decode cX0_copyFrom 97 = .ok (.invokestatic 77, 3) := by decide +kernel
theorem dX0_copyFrom_100 : decode cX0_copyFrom 100 = .ok (.return_, 1) := by decide +kernel
noncomputable def f_X0_copyFrom (G : GG) (v0 : Nat) (v1 : Nat) (h : AH) : Option (AH) :=
ck (m_t h v1 = .inl 0) <|
ob (m_r h v1 0) fun b2 =>
ck (m_t h v0 = .inl 0) <|
nn (m_sr h v0 0 (some b2)) fun h4 =>
nn (m_si h4 v0 2 (m_i h4 v1 2)) fun h5 =>
nn (m_si h5 v0 3 (m_i h5 v1 3)) fun h6 =>
nn (m_si h6 v0 4 (m_i h6 v1 4)) fun h7 =>
nn (m_si h7 v0 5 (m_i h7 v1 5)) fun h8 =>
ob (m_r h8 v1 6) fun b9 =>
ob (m_r h8 v0 6) fun b10 =>
ob (alb h8 b9 .int) fun n11 =>
ob (alb h8 b10 .int) fun n12 =>
ck (¬ (0 : Int32) < 0 ∧ ¬ (0 : Int32) < 0 ∧ ¬ (8 : Int32) < 0 ∧ (0 : Int32).toNatClampNeg + (8 : Int32).toNatClampNeg ≤ n11 ∧ (0 : Int32).toNatClampNeg + (8 : Int32).toNatClampNeg ≤ n12) <|
nn (m_sa h8 b10 (va_cpy (m_i h8 b9) (m_i h8 b10) (0 : Int32).toNatClampNeg (0 : Int32).toNatClampNeg (8 : Int32).toNatClampNeg)) fun h14 =>
ob (m_r h14 v1 7) fun b15 =>
ob (m_r h14 v0 7) fun b16 =>
ob (alb h14 b15 .int) fun n17 =>
ob (alb h14 b16 .int) fun n18 =>
ck (¬ (0 : Int32) < 0 ∧ ¬ (0 : Int32) < 0 ∧ ¬ (8 : Int32) < 0 ∧ (0 : Int32).toNatClampNeg + (8 : Int32).toNatClampNeg ≤ n17 ∧ (0 : Int32).toNatClampNeg + (8 : Int32).toNatClampNeg ≤ n18) <|
nn (m_sa h14 b16 (va_cpy (m_i h14 b15) (m_i h14 b16) (0 : Int32).toNatClampNeg (0 : Int32).toNatClampNeg (8 : Int32).toNatClampNeg)) fun h20 =>
ob (m_r h20 v1 8) fun b21 =>
ob (m_r h20 v0 8) fun b22 =>
ob (alb h20 b21 .int) fun n23 =>
ob (alb h20 b22 .int) fun n24 =>
ck (¬ (0 : Int32) < 0 ∧ ¬ (0 : Int32) < 0 ∧ ¬ (8 : Int32) < 0 ∧ (0 : Int32).toNatClampNeg + (8 : Int32).toNatClampNeg ≤ n23 ∧ (0 : Int32).toNatClampNeg + (8 : Int32).toNatClampNeg ≤ n24) <|
nn (m_sa h20 b22 (va_cpy (m_i h20 b21) (m_i h20 b22) (0 : Int32).toNatClampNeg (0 : Int32).toNatClampNeg (8 : Int32).toNatClampNeg)) fun h26 =>
ob (m_r h26 v1 9) fun b27 =>
ob (m_r h26 v0 9) fun b28 =>
ob (alb h26 b27 .int) fun n29 =>
ob (alb h26 b28 .int) fun n30 =>
ck (¬ (0 : Int32) < 0 ∧ ¬ (0 : Int32) < 0 ∧ ¬ (8 : Int32) < 0 ∧ (0 : Int32).toNatClampNeg + (8 : Int32).toNatClampNeg ≤ n29 ∧ (0 : Int32).toNatClampNeg + (8 : Int32).toNatClampNeg ≤ n30) <|
nn (m_sa h26 b28 (va_cpy (m_i h26 b27) (m_i h26 b28) (0 : Int32).toNatClampNeg (0 : Int32).toNatClampNeg (8 : Int32).toNatClampNeg)) fun h32 =>
some h32
set_option maxHeartbeats 4000000 in
set_option maxRecDepth 100000 in
theorem ct_X0_copyFrom {G : GG} {l : Launch} {v0 : Nat} {v1 : Nat} {h : AH} {y : AH} (hf : f_X0_copyFrom G v0 v1 h = some y) : Ct G l yX0_copyFrom cX0_copyFrom 2 none 1 64 0 0 [.ref v0, .ref v1] h (none, y) := by
  refine ct_of (by decide) (Nat.le_of_ble_eq_true rfl) ?_
  intro p e s m args below meth c C hm hr hin
  have C : Cx G cX0_copyFrom RX0 p s m args meth c := C
  refine e_lv (lv2 := [(0, .ref v0), (1, .ref v1)]) [0, 1] rfl ?_
  unfold f_X0_copyFrom at hf
  refine e_aload_n (pc := 0) C dX0_copyFrom_0 0 rfl rfl ?_
  refine e_aload_n (pc := 1) C dX0_copyFrom_1 1 rfl rfl ?_
  obtain ⟨t1, hf⟩ := ck_e hf
  refine e_getr (pc := 2) 0 0 C dX0_copyFrom_2 (by decide) (by decide) g393 rfl t1 ?_
  obtain ⟨b2, eb2, hf⟩ := ob_e hf
  refine e_rf eb2 ?_
  obtain ⟨t3, hf⟩ := ck_e hf
  refine e_putr (pc := 5) (x := some b2) 0 0 C dX0_copyFrom_5 (by decide) (by decide) g393 rfl rfl rfl rfl t3 ?_
  obtain ⟨h4, eh4, hf⟩ := nn_e hf
  refine e_hp eh4 ?_
  have uh4 : m_t h4 = m_t h := by rw [eh4]; exact rfl
  refine e_aload_n (pc := 8) C dX0_copyFrom_8 0 rfl rfl ?_
  refine e_aload_n (pc := 9) C dX0_copyFrom_9 1 rfl rfl ?_
  refine e_geti (pc := 10) 0 2 C dX0_copyFrom_10 (by decide) (by decide) g402 rfl (e_mt uh4 t1) ?_
  refine e_puti (pc := 13) 0 2 C dX0_copyFrom_13 (by decide) (by decide) g402 rfl rfl rfl rfl (e_mt uh4 t3) ?_
  obtain ⟨h5, eh5, hf⟩ := nn_e hf
  refine e_hp eh5 ?_
  have uh5 : m_t h5 = m_t h := by rw [eh5]; exact uh4
  refine e_aload_n (pc := 16) C dX0_copyFrom_16 0 rfl rfl ?_
  refine e_aload_n (pc := 17) C dX0_copyFrom_17 1 rfl rfl ?_
  refine e_geti (pc := 18) 0 3 C dX0_copyFrom_18 (by decide) (by decide) g407 rfl (e_mt uh5 t1) ?_
  refine e_puti (pc := 21) 0 3 C dX0_copyFrom_21 (by decide) (by decide) g407 rfl rfl rfl rfl (e_mt uh5 t3) ?_
  obtain ⟨h6, eh6, hf⟩ := nn_e hf
  refine e_hp eh6 ?_
  have uh6 : m_t h6 = m_t h := by rw [eh6]; exact uh5
  refine e_aload_n (pc := 24) C dX0_copyFrom_24 0 rfl rfl ?_
  refine e_aload_n (pc := 25) C dX0_copyFrom_25 1 rfl rfl ?_
  refine e_geti (pc := 26) 0 4 C dX0_copyFrom_26 (by decide) (by decide) g412 rfl (e_mt uh6 t1) ?_
  refine e_puti (pc := 29) 0 4 C dX0_copyFrom_29 (by decide) (by decide) g412 rfl rfl rfl rfl (e_mt uh6 t3) ?_
  obtain ⟨h7, eh7, hf⟩ := nn_e hf
  refine e_hp eh7 ?_
  have uh7 : m_t h7 = m_t h := by rw [eh7]; exact uh6
  refine e_aload_n (pc := 32) C dX0_copyFrom_32 0 rfl rfl ?_
  refine e_aload_n (pc := 33) C dX0_copyFrom_33 1 rfl rfl ?_
  refine e_geti (pc := 34) 0 5 C dX0_copyFrom_34 (by decide) (by decide) g416 rfl (e_mt uh7 t1) ?_
  refine e_puti (pc := 37) 0 5 C dX0_copyFrom_37 (by decide) (by decide) g416 rfl rfl rfl rfl (e_mt uh7 t3) ?_
  obtain ⟨h8, eh8, hf⟩ := nn_e hf
  refine e_hp eh8 ?_
  have uh8 : m_t h8 = m_t h := by rw [eh8]; exact uh7
  refine e_aload_n (pc := 40) C dX0_copyFrom_40 1 rfl rfl ?_
  refine e_getr (pc := 41) 0 6 C dX0_copyFrom_41 (by decide) (by decide) g421 rfl (e_mt uh8 t1) ?_
  obtain ⟨b9, eb9, hf⟩ := ob_e hf
  refine e_rf eb9 ?_
  refine e_iconst (v := (0 : Int32)) (pc := 44) C dX0_copyFrom_44 (by decide) ?_
  refine e_aload_n (pc := 45) C dX0_copyFrom_45 0 rfl rfl ?_
  refine e_getr (pc := 46) 0 6 C dX0_copyFrom_46 (by decide) (by decide) g421 rfl (e_mt uh8 t3) ?_
  obtain ⟨b10, eb10, hf⟩ := ob_e hf
  refine e_rf eb10 ?_
  refine e_iconst (v := (0 : Int32)) (pc := 49) C dX0_copyFrom_49 (by decide) ?_
  refine e_bipush (v := (8 : Int32)) (pc := 50) C dX0_copyFrom_50 (by decide) ?_
  obtain ⟨n11, en11, hf⟩ := ob_e hf
  obtain ⟨n12, en12, hf⟩ := ob_e hf
  obtain ⟨q13, hf⟩ := ck_e hf
  refine e_copy (pc := 52) C dX0_copyFrom_52 g989 g867 g866 g165 (al_e en11) (al_e en12) q13.1 q13.2.1 q13.2.2.1 q13.2.2.2.1 q13.2.2.2.2 (Nat.le_of_ble_eq_true rfl) (by decide) ?_
  obtain ⟨h14, eh14, hf⟩ := nn_e hf
  refine e_hp eh14 ?_
  have uh14 : m_t h14 = m_t h := by rw [eh14]; exact uh8
  refine e_aload_n (pc := 55) C dX0_copyFrom_55 1 rfl rfl ?_
  refine e_getr (pc := 56) 0 7 C dX0_copyFrom_56 (by decide) (by decide) g425 rfl (e_mt uh14 t1) ?_
  obtain ⟨b15, eb15, hf⟩ := ob_e hf
  refine e_rf eb15 ?_
  refine e_iconst (v := (0 : Int32)) (pc := 59) C dX0_copyFrom_59 (by decide) ?_
  refine e_aload_n (pc := 60) C dX0_copyFrom_60 0 rfl rfl ?_
  refine e_getr (pc := 61) 0 7 C dX0_copyFrom_61 (by decide) (by decide) g425 rfl (e_mt uh14 t3) ?_
  obtain ⟨b16, eb16, hf⟩ := ob_e hf
  refine e_rf eb16 ?_
  refine e_iconst (v := (0 : Int32)) (pc := 64) C dX0_copyFrom_64 (by decide) ?_
  refine e_bipush (v := (8 : Int32)) (pc := 65) C dX0_copyFrom_65 (by decide) ?_
  obtain ⟨n17, en17, hf⟩ := ob_e hf
  obtain ⟨n18, en18, hf⟩ := ob_e hf
  obtain ⟨q19, hf⟩ := ck_e hf
  refine e_copy (pc := 67) C dX0_copyFrom_67 g989 g867 g866 g165 (al_e en17) (al_e en18) q19.1 q19.2.1 q19.2.2.1 q19.2.2.2.1 q19.2.2.2.2 (Nat.le_of_ble_eq_true rfl) (by decide) ?_
  obtain ⟨h20, eh20, hf⟩ := nn_e hf
  refine e_hp eh20 ?_
  have uh20 : m_t h20 = m_t h := by rw [eh20]; exact uh14
  refine e_aload_n (pc := 70) C dX0_copyFrom_70 1 rfl rfl ?_
  refine e_getr (pc := 71) 0 8 C dX0_copyFrom_71 (by decide) (by decide) g428 rfl (e_mt uh20 t1) ?_
  obtain ⟨b21, eb21, hf⟩ := ob_e hf
  refine e_rf eb21 ?_
  refine e_iconst (v := (0 : Int32)) (pc := 74) C dX0_copyFrom_74 (by decide) ?_
  refine e_aload_n (pc := 75) C dX0_copyFrom_75 0 rfl rfl ?_
  refine e_getr (pc := 76) 0 8 C dX0_copyFrom_76 (by decide) (by decide) g428 rfl (e_mt uh20 t3) ?_
  obtain ⟨b22, eb22, hf⟩ := ob_e hf
  refine e_rf eb22 ?_
  refine e_iconst (v := (0 : Int32)) (pc := 79) C dX0_copyFrom_79 (by decide) ?_
  refine e_bipush (v := (8 : Int32)) (pc := 80) C dX0_copyFrom_80 (by decide) ?_
  obtain ⟨n23, en23, hf⟩ := ob_e hf
  obtain ⟨n24, en24, hf⟩ := ob_e hf
  obtain ⟨q25, hf⟩ := ck_e hf
  refine e_copy (pc := 82) C dX0_copyFrom_82 g989 g867 g866 g165 (al_e en23) (al_e en24) q25.1 q25.2.1 q25.2.2.1 q25.2.2.2.1 q25.2.2.2.2 (Nat.le_of_ble_eq_true rfl) (by decide) ?_
  obtain ⟨h26, eh26, hf⟩ := nn_e hf
  refine e_hp eh26 ?_
  have uh26 : m_t h26 = m_t h := by rw [eh26]; exact uh20
  refine e_aload_n (pc := 85) C dX0_copyFrom_85 1 rfl rfl ?_
  refine e_getr (pc := 86) 0 9 C dX0_copyFrom_86 (by decide) (by decide) g430 rfl (e_mt uh26 t1) ?_
  obtain ⟨b27, eb27, hf⟩ := ob_e hf
  refine e_rf eb27 ?_
  refine e_iconst (v := (0 : Int32)) (pc := 89) C dX0_copyFrom_89 (by decide) ?_
  refine e_aload_n (pc := 90) C dX0_copyFrom_90 0 rfl rfl ?_
  refine e_getr (pc := 91) 0 9 C dX0_copyFrom_91 (by decide) (by decide) g430 rfl (e_mt uh26 t3) ?_
  obtain ⟨b28, eb28, hf⟩ := ob_e hf
  refine e_rf eb28 ?_
  refine e_iconst (v := (0 : Int32)) (pc := 94) C dX0_copyFrom_94 (by decide) ?_
  refine e_bipush (v := (8 : Int32)) (pc := 95) C dX0_copyFrom_95 (by decide) ?_
  obtain ⟨n29, en29, hf⟩ := ob_e hf
  obtain ⟨n30, en30, hf⟩ := ob_e hf
  obtain ⟨q31, hf⟩ := ck_e hf
  refine e_copy (pc := 97) C dX0_copyFrom_97 g989 g867 g866 g165 (al_e en29) (al_e en30) q31.1 q31.2.1 q31.2.2.1 q31.2.2.2.1 q31.2.2.2.2 (Nat.le_of_ble_eq_true rfl) (by decide) ?_
  obtain ⟨h32, eh32, hf⟩ := nn_e hf
  refine e_hp eh32 ?_
  have uh32 : m_t h32 = m_t h := by rw [eh32]; exact uh26
  obtain rfl := so_e hf
  exact e_vret (pc := 100) C hr dX0_copyFrom_100 (Nat.le_of_ble_eq_true rfl) (Nat.le_of_ble_eq_true rfl)
theorem dX6_act_0 : decode cX6_act 0 = .ok (.new 41, 3) := by decide +kernel
theorem dX6_act_3 : decode cX6_act 3 = .ok (.dup, 1) := by decide +kernel
theorem dX6_act_4 : decode cX6_act 4 = .ok (.aload_n 0, 1) := by decide +kernel
theorem dX6_act_5 : decode cX6_act 5 = .ok (.getfield 31, 3) := by decide +kernel
theorem dX6_act_8 : decode cX6_act 8 = .ok (.getfield 49, 3) := by decide +kernel
theorem dX6_act_11 : decode cX6_act 11 = .ok (.invokespecial 43, 3) := by decide +kernel
theorem dX6_act_14 : decode cX6_act 14 = .ok (.astore_n 1, 1) := by decide +kernel
theorem dX6_act_15 : decode cX6_act 15 = .ok (.aload_n 1, 1) := by decide +kernel
theorem dX6_act_16 : decode cX6_act 16 = .ok (.aload_n 0, 1) := by decide +kernel
theorem dX6_act_17 : decode cX6_act 17 = .ok (.getfield 31, 3) := by decide +kernel
theorem dX6_act_20 : decode cX6_act 20 = .ok (.invokevirtual 53, 3) := by decide +kernel
theorem dX6_act_23 : decode cX6_act 23 = .ok (.aload_n 1, 1) := by decide +kernel
theorem dX6_act_24 : decode cX6_act 24 = .ok (.aload_n 0, 1) := by decide +kernel
theorem dX6_act_25 : decode cX6_act 25 = .ok (.getfield 31, 3) := by decide +kernel
theorem dX6_act_28 : decode cX6_act 28 = .ok (.putfield 57, 3) := by decide +kernel
theorem dX6_act_31 : decode cX6_act 31 = .ok (.aload_n 0, 1) := by decide +kernel
theorem dX6_act_32 : decode cX6_act 32 = .ok (.aload_n 1, 1) := by decide +kernel
theorem dX6_act_33 : decode cX6_act 33 = .ok (.putfield 31, 3) := by decide +kernel
theorem dX6_act_36 : decode cX6_act 36 = .ok (.aload_n 0, 1) := by decide +kernel
theorem dX6_act_37 : decode cX6_act 37 = .ok (.bipush 20, 2) := by decide +kernel
theorem dX6_act_39 : decode cX6_act 39 = .ok (.aload_n 0, 1) := by decide +kernel
theorem dX6_act_40 : decode cX6_act 40 = .ok (.getfield 9, 3) := by decide +kernel
theorem dX6_act_43 : decode cX6_act 43 = .ok (.iconst 1, 1) := by decide +kernel
theorem dX6_act_44 : decode cX6_act 44 = .ok (.iadd, 1) := by decide +kernel
theorem dX6_act_45 : decode cX6_act 45 = .ok (.invokestatic 60, 3) := by decide +kernel
theorem dX6_act_48 : decode cX6_act 48 = .ok (.putfield 9, 3) := by decide +kernel
theorem dX6_act_51 : decode cX6_act 51 = .ok (.aload_n 1, 1) := by decide +kernel
theorem dX6_act_52 : decode cX6_act 52 = .ok (.areturn, 1) := by decide +kernel
noncomputable def f_X6_act (G : GG) (v0 : Nat) (h : AH) : Option (Nat × AH) :=
nn (m_n h) fun x1 =>
nn (m_new h (.inl 0)) fun h2 =>
ck (m_t h2 v0 = .inl 6) <|
ob (m_r h2 v0 0) fun b4 =>
ck (m_t h2 b4 = .inl 0) <|
ob (m_r h2 b4 0) fun b6 =>
ob (f_X0_init G x1 b6 h2) fun h7 =>
ck (m_t h7 v0 = .inl 6) <|
ob (m_r h7 v0 0) fun b10 =>
ck (m_t h7 x1 = .inl 0) <|
ob (f_X0_copyFrom G x1 b10 h7) fun h12 =>
ck (m_t h12 v0 = .inl 6) <|
ob (m_r h12 v0 0) fun b15 =>
ck (m_t h12 x1 = .inl 0) <|
nn (m_sr h12 x1 1 (some b15)) fun h17 =>
nn (m_sr h17 v0 0 (some x1)) fun h18 =>
nn ((m_i h18 v0 1) + (1 : Int32)) fun x19 =>
nn (if x19 < (20 : Int32) then x19 else (20 : Int32)) fun x20 =>
nn (m_si h18 v0 1 x20) fun h21 =>
some (x1, h21)
set_option maxHeartbeats 4000000 in
set_option maxRecDepth 100000 in
theorem ct_X6_act {G : GG} {l : Launch} {v0 : Nat} {h : AH} {y : Nat × AH} (hf : f_X6_act G v0 h = some y) : Ct G l yX6_act cX6_act 2 (some (.object "StrapWindow$Cabin")) 2 85 5 42 [.ref v0] h (some (.ref y.1), y.2) := by
  refine ct_of (by decide) (Nat.le_of_ble_eq_true rfl) ?_
  intro p e s m args below meth c C hm hr hin
  have C : Cx G cX6_act RX6 p s m args meth c := C
  refine e_lv (lv2 := [(0, .ref v0)]) [0] rfl ?_
  unfold f_X6_act at hf
  refine e_new (pc := 0) (ci := 0) C dX6_act_0 (by decide) g776 g258 g151 (Nat.le_of_ble_eq_true rfl) (Nat.le_of_ble_eq_true rfl) ?_
  obtain ⟨x1, ex1, hf⟩ := nn_e hf
  refine e_topr ex1 ?_
  obtain ⟨h2, eh2, hf⟩ := nn_e hf
  refine e_hp eh2 ?_
  have tx1 : m_t h2 x1 = .inl 0 := by rw [eh2, ex1]; simp [m_t, m_new, m_n, va_up]
  refine e_dup (pc := 3) C dX6_act_3 rfl ?_
  refine e_aload_n (pc := 4) C dX6_act_4 0 rfl rfl ?_
  obtain ⟨t3, hf⟩ := ck_e hf
  refine e_getr (pc := 5) 6 0 C dX6_act_5 (by decide) (by decide) g457 rfl t3 ?_
  obtain ⟨b4, eb4, hf⟩ := ob_e hf
  refine e_rf eb4 ?_
  obtain ⟨t5, hf⟩ := ck_e hf
  refine e_getrN (pc := 8) 0 0 C dX6_act_8 (by decide) (by decide) g399 rfl t5 ?_
  obtain ⟨b6, eb6, hf⟩ := ob_e hf
  refine e_rf eb6 ?_
  obtain ⟨h7, y8, hf⟩ := ob_e hf
  refine e_callIv (pc := 11) (st := [.ref x1]) C (ct_X0_init y8) dX6_act_11 g777 g390 g151 g391 rfl hd_X0_init rfl ⟨Nat.le_of_ble_eq_true rfl, Nat.le_of_ble_eq_true rfl⟩ ⟨Nat.le_of_ble_eq_true rfl, Nat.le_of_ble_eq_true rfl⟩ rfl (Nat.le_of_ble_eq_true rfl) ?_
  refine e_astore_n (pc := 14) (lv2 := [(1, .ref x1), (0, .ref v0)]) C hm dX6_act_14 rfl (by decide) rfl ?_
  refine e_aload_n (pc := 15) C dX6_act_15 0 rfl rfl ?_
  refine e_aload_n (pc := 16) C dX6_act_16 1 rfl rfl ?_
  obtain ⟨t9, hf⟩ := ck_e hf
  refine e_getr (pc := 17) 6 0 C dX6_act_17 (by decide) (by decide) g457 rfl t9 ?_
  obtain ⟨b10, eb10, hf⟩ := ob_e hf
  refine e_rf eb10 ?_
  obtain ⟨t11, hf⟩ := ck_e hf
  obtain ⟨h12, y13, hf⟩ := ob_e hf
  refine e_callVv (pc := 20) (st := []) 0 C (ct_X0_copyFrom y13) dX6_act_20 (by decide) t11 g985 g986 g987 g151 g988 hd_X0_copyFrom rfl ⟨Nat.le_of_ble_eq_true rfl, Nat.le_of_ble_eq_true rfl⟩ ⟨Nat.le_of_ble_eq_true rfl, Nat.le_of_ble_eq_true rfl⟩ rfl (Nat.le_of_ble_eq_true rfl) ?_
  refine e_aload_n (pc := 23) C dX6_act_23 0 rfl rfl ?_
  refine e_aload_n (pc := 24) C dX6_act_24 1 rfl rfl ?_
  obtain ⟨t14, hf⟩ := ck_e hf
  refine e_getr (pc := 25) 6 0 C dX6_act_25 (by decide) (by decide) g457 rfl t14 ?_
  obtain ⟨b15, eb15, hf⟩ := ob_e hf
  refine e_rf eb15 ?_
  obtain ⟨t16, hf⟩ := ck_e hf
  refine e_putrN (pc := 28) (x := some b15) 0 1 C dX6_act_28 (by decide) (by decide) g401 rfl rfl rfl rfl t16 ?_
  obtain ⟨h17, eh17, hf⟩ := nn_e hf
  refine e_hp eh17 ?_
  have uh17 : m_t h17 = m_t h12 := by rw [eh17]; exact rfl
  refine e_aload_n (pc := 31) C dX6_act_31 1 rfl rfl ?_
  refine e_aload_n (pc := 32) C dX6_act_32 0 rfl rfl ?_
  refine e_putr (pc := 33) (x := some x1) 6 0 C dX6_act_33 (by decide) (by decide) g457 rfl rfl rfl rfl (e_mt uh17 t14) ?_
  obtain ⟨h18, eh18, hf⟩ := nn_e hf
  refine e_hp eh18 ?_
  have uh18 : m_t h18 = m_t h12 := by rw [eh18]; exact uh17
  refine e_aload_n (pc := 36) C dX6_act_36 1 rfl rfl ?_
  refine e_bipush (v := (20 : Int32)) (pc := 37) C dX6_act_37 (by decide) ?_
  refine e_aload_n (pc := 39) C dX6_act_39 1 rfl rfl ?_
  refine e_geti (pc := 40) 6 1 C dX6_act_40 (by decide) (by decide) g460 rfl (e_mt uh18 t14) ?_
  refine e_iconst (v := (1 : Int32)) (pc := 43) C dX6_act_43 (by decide) ?_
  refine e_iadd (pc := 44) C dX6_act_44 ?_
  obtain ⟨x19, ex19, hf⟩ := nn_e hf
  refine e_topi ex19 ?_
  refine e_mmin (pc := 45) C dX6_act_45 g990 g863 g164 g864 (Nat.le_of_ble_eq_true rfl) (Nat.le_of_ble_eq_true rfl) (Nat.le_of_ble_eq_true rfl) (Nat.le_of_ble_eq_true rfl) ?_
  obtain ⟨x20, ex20, hf⟩ := nn_e hf
  refine e_topi ex20 ?_
  refine e_puti (pc := 48) 6 1 C dX6_act_48 (by decide) (by decide) g460 rfl rfl rfl rfl (e_mt uh18 t14) ?_
  obtain ⟨h21, eh21, hf⟩ := nn_e hf
  refine e_hp eh21 ?_
  have uh21 : m_t h21 = m_t h12 := by rw [eh21]; exact uh18
  refine e_aload_n (pc := 51) C dX6_act_51 0 rfl rfl ?_
  obtain rfl := so_e hf
  exact e_aret (pc := 52) (r := some x1) C hr (by simp) dX6_act_52 (Nat.le_of_ble_eq_true rfl) (Nat.le_of_ble_eq_true rfl)
theorem dX11_lawOf_0 : decode cX11_lawOf 0 = .ok (.aload_n 0, 1) := by decide +kernel
theorem dX11_lawOf_1 : decode cX11_lawOf 1 = .ok (.iload_n 1, 1) := by decide +kernel
theorem dX11_lawOf_2 : decode cX11_lawOf 2 = .ok (.invokevirtual 126, 3) := by decide +kernel
theorem dX11_lawOf_5 : decode cX11_lawOf 5 = .ok (.ifCond .eq 12, 3) := by decide +kernel
theorem dX11_lawOf_8 : decode cX11_lawOf 8 = .ok (.aload_n 0, 1) := by decide +kernel
theorem dX11_lawOf_9 : decode cX11_lawOf 9 = .ok (.getfield 34, 3) := by decide +kernel
theorem dX11_lawOf_12 : decode cX11_lawOf 12 = .ok (.iload_n 1, 1) := by decide +kernel
theorem dX11_lawOf_13 : decode cX11_lawOf 13 = .ok (.aaload, 1) := by decide +kernel
theorem dX11_lawOf_14 : decode cX11_lawOf 14 = .ok (.goto 4, 3) := by decide +kernel
theorem dX11_lawOf_17 : decode cX11_lawOf 17 = .ok (.aconst_null, 1) := by decide +kernel
theorem dX11_lawOf_18 : decode cX11_lawOf 18 = .ok (.areturn, 1) := by decide +kernel
noncomputable def f_X11_lawOf (G : GG) (v0 : Nat) (v1 : Int32) (h : AH) : Option (Option Nat × AH) :=
ck (m_t h v0 = .inl 11) <|
cb (f_X11_hasLaw G v0 v1 h) fun r4 h2 =>
if r4 = 0 then (some (none, h2)) else
ck (m_t h2 v0 = .inl 11) <|
ob (m_r h2 v0 3) fun b7 =>
ck (ixb h2 b7 (.object RX2) v1 = true) <|
some (m_r h2 b7 v1.toNatClampNeg, h2)
set_option maxHeartbeats 4000000 in
set_option maxRecDepth 100000 in
theorem ct_X11_lawOf {G : GG} {l : Launch} {v0 : Nat} {v1 : Int32} {h : AH} {y : Option Nat × AH} (hf : f_X11_lawOf G v0 v1 h = some y) : Ct G l yX11_lawOf cX11_lawOf 2 (some (.object "StrapWindow$Law")) 1 21 0 0 [.ref v0, .int v1] h (some (va_rf y.1), y.2) := by
  refine ct_of (by decide) (Nat.le_of_ble_eq_true rfl) ?_
  intro p e s m args below meth c C hm hr hin
  have C : Cx G cX11_lawOf RX11 p s m args meth c := C
  refine e_lv (lv2 := [(0, .ref v0), (1, .int v1)]) [0, 1] rfl ?_
  unfold f_X11_lawOf at hf
  refine e_aload_n (pc := 0) C dX11_lawOf_0 0 rfl rfl ?_
  refine e_iload_n (pc := 1) C dX11_lawOf_1 1 rfl rfl ?_
  obtain ⟨t1, hf⟩ := ck_e hf
  obtain ⟨r4, h2, y3, hf⟩ := cb_e hf
  refine e_callVi (pc := 2) (st := []) 11 C (ct_X11_hasLaw y3) dX11_lawOf_2 (by decide) t1 g899 g901 g23 g146 g902 hd_X11_hasLaw rfl ⟨Nat.le_of_ble_eq_true rfl, Nat.le_of_ble_eq_true rfl⟩ ⟨Nat.le_of_ble_eq_true rfl, Nat.le_of_ble_eq_true rfl⟩ rfl (Nat.le_of_ble_eq_true rfl) ?_
  rcases it_e hf with ⟨c5, hf⟩ | ⟨c5, hf⟩
  · refine e_if_eq (pc := 5) (tgt := 17) C dX11_lawOf_5 (by decide) (fun _ => ?_) (fun q => absurd c5 q)
    refine e_null (pc := 17) C dX11_lawOf_17 ?_
    obtain rfl := so_e hf
    exact e_aret (pc := 18) (r := none) C hr (by simp) dX11_lawOf_18 (Nat.le_of_ble_eq_true rfl) (Nat.le_of_ble_eq_true rfl)
  · refine e_if_eq (pc := 5) (tgt := 17) C dX11_lawOf_5 (by decide) (fun q => absurd q c5) (fun _ => ?_)
    refine e_aload_n (pc := 8) C dX11_lawOf_8 0 rfl rfl ?_
    obtain ⟨t6, hf⟩ := ck_e hf
    refine e_getr (pc := 9) 11 3 C dX11_lawOf_9 (by decide) (by decide) g576 rfl t6 ?_
    obtain ⟨b7, eb7, hf⟩ := ob_e hf
    refine e_rf eb7 ?_
    refine e_iload_n (pc := 12) C dX11_lawOf_12 1 rfl rfl ?_
    obtain ⟨q8, hf⟩ := ck_e hf
    obtain ⟨n9, tn9, in9⟩ := ix_e q8
    refine e_aald (pc := 13) 5 rfl C dX11_lawOf_13 tn9 in9 ?_
    refine e_goto (pc := 14) (tgt := 18) C dX11_lawOf_14 (by decide) ?_
    obtain rfl := so_e hf
    exact e_aret (pc := 18) (r := m_r h2 b7 v1.toNatClampNeg) C hr (by simp) dX11_lawOf_18 (Nat.le_of_ble_eq_true rfl) (Nat.le_of_ble_eq_true rfl)
theorem dX2_lookAround_0 : decode cX2_lookAround 0 = .ok (.aload_n 0, 1) := by decide +kernel
theorem dX2_lookAround_1 : decode cX2_lookAround 1 = .ok (.getfield 19, 3) := by decide +kernel
theorem dX2_lookAround_4 : decode cX2_lookAround 4 = .ok (.iconst 0, 1) := by decide +kernel
theorem dX2_lookAround_5 : decode cX2_lookAround 5 = .ok (.invokestatic 63, 3) := by decide +kernel
theorem dX2_lookAround_8 : decode cX2_lookAround 8 = .ok (.aload_n 0, 1) := by decide +kernel
theorem dX2_lookAround_9 : decode cX2_lookAround 9 = .ok (.iconst 0, 1) := by decide +kernel
theorem dX2_lookAround_10 : decode cX2_lookAround 10 = .ok (.putfield 23, 3) := by decide +kernel
theorem dX2_lookAround_13 : decode cX2_lookAround 13 = .ok (.aload_n 0, 1) := by decide +kernel
theorem dX2_lookAround_14 : decode cX2_lookAround 14 = .ok (.iconst (-1), 1) := by decide +kernel
theorem dX2_lookAround_15 : decode cX2_lookAround 15 = .ok (.putfield 26, 3) := by decide +kernel
theorem dX2_lookAround_18 : decode cX2_lookAround 18 = .ok (.aload_n 0, 1) := by decide +kernel
theorem dX2_lookAround_19 : decode cX2_lookAround 19 = .ok (.iconst 0, 1) := by decide +kernel
theorem dX2_lookAround_20 : decode cX2_lookAround 20 = .ok (.putfield 29, 3) := by decide +kernel
theorem dX2_lookAround_23 : decode cX2_lookAround 23 = .ok (.iconst 0, 1) := by decide +kernel
theorem dX2_lookAround_24 : decode cX2_lookAround 24 = .ok (.istore_n 2, 1) := by decide +kernel
theorem dX2_lookAround_25 : decode cX2_lookAround 25 = .ok (.iload_n 2, 1) := by decide +kernel
theorem dX2_lookAround_26 : decode cX2_lookAround 26 = .ok (.aload_n 1, 1) := by decide +kernel
theorem dX2_lookAround_27 : decode cX2_lookAround 27 = .ok (.getfield 69, 3) := by decide +kernel
theorem dX2_lookAround_30 : decode cX2_lookAround 30 = .ok (.getfield 73, 3) := by decide +kernel
theorem dX2_lookAround_33 : decode cX2_lookAround 33 = .ok (.if_icmp .ge 81, 3) := by decide +kernel
theorem dX2_lookAround_36 : decode cX2_lookAround 36 = .ok (.aload_n 1, 1) := by decide +kernel
theorem dX2_lookAround_37 : decode cX2_lookAround 37 = .ok (.iload_n 2, 1) := by decide +kernel
theorem dX2_lookAround_38 : decode cX2_lookAround 38 = .ok (.invokevirtual 78, 3) := by decide +kernel
theorem dX2_lookAround_41 : decode cX2_lookAround 41 = .ok (.ifCond .eq 67, 3) := by decide +kernel
theorem dX2_lookAround_44 : decode cX2_lookAround 44 = .ok (.aload_n 1, 1) := by decide +kernel
theorem dX2_lookAround_45 : decode cX2_lookAround 45 = .ok (.iload_n 2, 1) := by decide +kernel
theorem dX2_lookAround_46 : decode cX2_lookAround 46 = .ok (.invokevirtual 82, 3) := by decide +kernel
theorem dX2_lookAround_49 : decode cX2_lookAround 49 = .ok (.istore_n 3, 1) := by decide +kernel
theorem dX2_lookAround_50 : decode cX2_lookAround 50 = .ok (.aload_n 0, 1) := by decide +kernel
theorem dX2_lookAround_51 : decode cX2_lookAround 51 = .ok (.getfield 19, 3) := by decide +kernel
theorem dX2_lookAround_54 : decode cX2_lookAround 54 = .ok (.iload_n 3, 1) := by decide +kernel
theorem dX2_lookAround_55 : decode cX2_lookAround 55 = .ok (.dup2, 1) := by decide +kernel
theorem dX2_lookAround_56 : decode cX2_lookAround 56 = .ok (.iaload, 1) := by decide +kernel
theorem dX2_lookAround_57 : decode cX2_lookAround 57 = .ok (.iconst 1, 1) := by decide +kernel
theorem dX2_lookAround_58 : decode cX2_lookAround 58 = .ok (.iadd, 1) := by decide +kernel
theorem dX2_lookAround_59 : decode cX2_lookAround 59 = .ok (.iastore, 1) := by decide +kernel
theorem dX2_lookAround_60 : decode cX2_lookAround 60 = .ok (.aload_n 0, 1) := by decide +kernel
theorem dX2_lookAround_61 : decode cX2_lookAround 61 = .ok (.dup, 1) := by decide +kernel
theorem dX2_lookAround_62 : decode cX2_lookAround 62 = .ok (.getfield 23, 3) := by decide +kernel
theorem dX2_lookAround_65 : decode cX2_lookAround 65 = .ok (.iconst 1, 1) := by decide +kernel
theorem dX2_lookAround_66 : decode cX2_lookAround 66 = .ok (.iadd, 1) := by decide +kernel
theorem dX2_lookAround_67 : decode cX2_lookAround 67 = .ok (.putfield 23, 3) := by decide +kernel
theorem dX2_lookAround_70 : decode cX2_lookAround 70 = .ok (.aload_n 0, 1) := by decide +kernel
theorem dX2_lookAround_71 : decode cX2_lookAround 71 = .ok (.aload_n 1, 1) := by decide +kernel
theorem dX2_lookAround_72 : decode cX2_lookAround 72 = .ok (.getfield 86, 3) := by decide +kernel
theorem dX2_lookAround_75 : decode cX2_lookAround 75 = .ok (.iload_n 2, 1) := by decide +kernel
theorem dX2_lookAround_76 : decode cX2_lookAround 76 = .ok (.iaload, 1) := by decide +kernel
theorem dX2_lookAround_77 : decode cX2_lookAround 77 = .ok (.ifCond .ne 7, 3) := by decide +kernel
theorem dX2_lookAround_80 : decode cX2_lookAround 80 = .ok (.iload_n 3, 1) := by decide +kernel
theorem dX2_lookAround_81 : decode cX2_lookAround 81 = .ok (.goto 7, 3) := by decide +kernel
theorem dX2_lookAround_84 : decode cX2_lookAround 84 = .ok (.aload_n 0, 1) := by decide +kernel
theorem dX2_lookAround_85 : decode cX2_lookAround 85 = .ok (.getfield 26, 3) := by decide +kernel
theorem dX2_lookAround_88 : decode cX2_lookAround 88 = .ok (.putfield 26, 3) := by decide +kernel
theorem dX2_lookAround_91 : decode cX2_lookAround 91 = .ok (.aload_n 0, 1) := by decide +kernel
theorem dX2_lookAround_92 : decode cX2_lookAround 92 = .ok (.aload_n 0, 1) := by decide +kernel
theorem dX2_lookAround_93 : decode cX2_lookAround 93 = .ok (.getfield 29, 3) := by decide +kernel
theorem dX2_lookAround_96 : decode cX2_lookAround 96 = .ok (.aload_n 1, 1) := by decide +kernel
theorem dX2_lookAround_97 : decode cX2_lookAround 97 = .ok (.getfield 89, 3) := by decide +kernel
theorem dX2_lookAround_100 : decode cX2_lookAround 100 = .ok (.iload_n 2, 1) := by decide +kernel
theorem dX2_lookAround_101 : decode cX2_lookAround 101 = .ok (.iaload, 1) := by decide +kernel
theorem dX2_lookAround_102 : decode cX2_lookAround 102 = .ok (.invokestatic 92, 3) := by decide +kernel
theorem dX2_lookAround_105 : decode cX2_lookAround 105 = .ok (.putfield 29, 3) := by decide +kernel
theorem dX2_lookAround_108 : decode cX2_lookAround 108 = .ok (.iinc 2 1, 3) := by decide +kernel
theorem dX2_lookAround_111 : decode cX2_lookAround 111 = .ok (.goto (-86), 3) := by decide +kernel
theorem dX2_lookAround_114 : decode cX2_lookAround 114 = .ok (.return_, 1) := by decide +kernel
noncomputable def F_X2_lookAround_25 (G : GG) (v0 : Nat) (v1 : Nat) (self_25 : Int32 → AH → Option (AH)) (v2 : Int32) (h : AH) : Option (AH) :=
ck (m_t h v1 = .inl 0) <|
ob (m_r h v1 0) fun b10 =>
ck (m_t h b10 = .inl 9) <|
if (m_i h b10 5) ≤ v2 then (some h) else
cb (f_X0_isAboard G v1 v2 h) fun r15 h13 =>
nn (fun (h_108 : AH) => (nn (v2 + (1 : Int32)) fun x16 =>
self_25 x16 h_108)) fun j_108 =>
if r15 = 0 then (j_108 h13) else
ck (m_t h13 v1 = .inl 0) <|
cb (f_X0_wantOf G v1 v2 h13) fun r21 h19 =>
ck (m_t h19 v0 = .inl 2) <|
ob (m_r h19 v0 3) fun b23 =>
ck (ixb h19 b23 .int r21 = true) <|
ck (ixb h19 b23 .int r21 = true) <|
nn (m_si h19 b23 r21.toNatClampNeg ((m_i h19 b23 r21.toNatClampNeg) + (1 : Int32))) fun h28 =>
nn (m_si h28 v0 4 ((m_i h28 v0 4) + (1 : Int32))) fun h29 =>
ck (m_t h29 v1 = .inl 0) <|
ob (m_r h29 v1 6) fun b31 =>
ck (ixb h29 b31 .int v2 = true) <|
nn (fun (s0_88 : Int32) => (nn (m_si h29 v0 5 s0_88) fun h34 =>
ob (m_r h34 v1 7) fun b35 =>
ck (ixb h34 b35 .int v2 = true) <|
nn (m_i h34 b35 v2.toNatClampNeg) fun x38 =>
nn (if (m_i h34 v0 6) < x38 then x38 else (m_i h34 v0 6)) fun x39 =>
nn (m_si h34 v0 6 x39) fun h40 =>
j_108 h40)) fun j_88 =>
if (m_i h29 b31 v2.toNatClampNeg) = 0 then (j_88 r21) else
j_88 (m_i h29 v0 5)
noncomputable def f_X2_lookAround (G : GG) (v0 : Nat) (v1 : Nat) (h : AH) : Option (AH) :=
ck (m_t h v0 = .inl 2) <|
ob (m_r h v0 3) fun b2 =>
ob (f_J7_fill_53178 G b2 (0 : Int32) h) fun h3 =>
ck (m_t h3 v0 = .inl 2) <|
nn (m_si h3 v0 4 (0 : Int32)) fun h6 =>
nn (m_si h6 v0 5 (-1 : Int32)) fun h7 =>
nn (m_si h7 v0 6 (0 : Int32)) fun h8 =>
lq1 (F_X2_lookAround_25 G v0 v1 ) bN (0 : Int32) h8
set_option maxHeartbeats 4000000 in
set_option maxRecDepth 100000 in
theorem el_X2_lookAround_25 {G : GG} {p : Program} {l : Launch} {e : Env} {s : State} {m : MethodId} {args : Array Value} {below : List Frame} {meth : Method} {c : Code} {y : AH} (C : Cx G cX2_lookAround RX2 p s m args meth c) (hm : c.maxLocals = 4) (hr : meth.sig.returnType = none) (hin : meth.name = yX2_lookAround.name) {v0 : Nat} {v1 : Nat}  :
    ∀ (n : Nat) (v2 : Int32) (h : AH), lq1 (F_X2_lookAround_25 G v0 v1) n v2 h = some y → EE G p l e ({ frames := 2, cells := 0, slots := 0, locals := 49 } : Room) s m args below meth c (none, y) 0 0 25 [(0, .ref v0), (1, .ref v1), (2, .int v2)] [] h 0 0 := by
  intro n
  induction n with
  | zero => intro v2 h hf; exact (no_e hf).elim
  | succ n ih_25 =>
    intro v2 h hf
    have hf : F_X2_lookAround_25 G v0 v1 (lq1 (F_X2_lookAround_25 G v0 v1) n) v2 h = some y := hf
    generalize lq1 (F_X2_lookAround_25 G v0 v1) n = self_25 at hf ih_25
    unfold F_X2_lookAround_25 at hf
    refine e_iload_n (pc := 25) C dX2_lookAround_25 2 rfl rfl ?_
    refine e_aload_n (pc := 26) C dX2_lookAround_26 1 rfl rfl ?_
    obtain ⟨t9, hf⟩ := ck_e hf
    refine e_getrN (pc := 27) 0 0 C dX2_lookAround_27 (by decide) (by decide) g398 rfl t9 ?_
    obtain ⟨b10, eb10, hf⟩ := ob_e hf
    refine e_rf eb10 ?_
    obtain ⟨t11, hf⟩ := ck_e hf
    refine e_getiN (pc := 30) 9 5 C dX2_lookAround_30 (by decide) (by decide) g336 rfl t11 ?_
    rcases it_e hf with ⟨c12, hf⟩ | ⟨c12, hf⟩
    · refine e_icmp_ge (pc := 33) (tgt := 114) C dX2_lookAround_33 (by decide) (fun _ => ?_) (fun q => absurd c12 q)
      obtain rfl := so_e hf
      exact e_vret (pc := 114) C hr dX2_lookAround_114 (Nat.le_of_ble_eq_true rfl) (Nat.le_of_ble_eq_true rfl)
    · refine e_icmp_ge (pc := 33) (tgt := 114) C dX2_lookAround_33 (by decide) (fun q => absurd q c12) (fun _ => ?_)
      refine e_aload_n (pc := 36) C dX2_lookAround_36 1 rfl rfl ?_
      refine e_iload_n (pc := 37) C dX2_lookAround_37 2 rfl rfl ?_
      obtain ⟨r15, h13, y14, hf⟩ := cb_e hf
      refine e_callVi (pc := 38) (st := []) 0 C (ct_X0_isAboard y14) dX2_lookAround_38 (by decide) t9 g1008 g909 g910 g151 g911 hd_X0_isAboard rfl ⟨Nat.le_of_ble_eq_true rfl, Nat.le_of_ble_eq_true rfl⟩ ⟨Nat.le_of_ble_eq_true rfl, Nat.le_of_ble_eq_true rfl⟩ rfl (Nat.le_of_ble_eq_true rfl) ?_
      obtain ⟨j_108, ej_108, hf⟩ := nn_e hf
      have W_108 : ∀ (h_108 : AH), j_108 h_108 = some y → EE G p l e ({ frames := 2, cells := 0, slots := 0, locals := 49 } : Room) s m args below meth c (none, y) 0 0 108 [(0, .ref v0), (1, .ref v1), (2, .int v2)] [] h_108 0 0 := by
        intro h_108 hf
        rw [ej_108] at hf
        obtain ⟨x16, ex16, hf⟩ := nn_e hf
        refine e_iinc (pc := 108) (v := x16) (lv2 := [(2, .int x16), (0, .ref v0), (1, .ref v1)]) C hm dX2_lookAround_108 2 rfl (by rw [ex16]; rfl) (by decide) rfl ?_
        refine e_goto (pc := 111) (tgt := 25) C dX2_lookAround_111 (by decide) ?_
        refine e_lv (lv2 := [(0, .ref v0), (1, .ref v1), (2, .int x16)]) [1, 2, 0] rfl ?_
        exact ih_25 x16 h_108 hf
      rcases it_e hf with ⟨c17, hf⟩ | ⟨c17, hf⟩
      · refine e_if_eq (pc := 41) (tgt := 108) C dX2_lookAround_41 (by decide) (fun _ => ?_) (fun q => absurd c17 q)
        exact W_108 h13 hf
      · refine e_if_eq (pc := 41) (tgt := 108) C dX2_lookAround_41 (by decide) (fun q => absurd q c17) (fun _ => ?_)
        refine e_aload_n (pc := 44) C dX2_lookAround_44 1 rfl rfl ?_
        refine e_iload_n (pc := 45) C dX2_lookAround_45 2 rfl rfl ?_
        obtain ⟨t18, hf⟩ := ck_e hf
        obtain ⟨r21, h19, y20, hf⟩ := cb_e hf
        refine e_callVi (pc := 46) (st := []) 0 C (ct_X0_wantOf y20) dX2_lookAround_46 (by decide) t18 g1009 g914 g915 g151 g916 hd_X0_wantOf rfl ⟨Nat.le_of_ble_eq_true rfl, Nat.le_of_ble_eq_true rfl⟩ ⟨Nat.le_of_ble_eq_true rfl, Nat.le_of_ble_eq_true rfl⟩ rfl (Nat.le_of_ble_eq_true rfl) ?_
        refine e_istore_n (pc := 49) (lv2 := [(3, .int r21), (0, .ref v0), (1, .ref v1), (2, .int v2)]) C hm dX2_lookAround_49 rfl (by decide) rfl ?_
        refine e_aload_n (pc := 50) C dX2_lookAround_50 1 rfl rfl ?_
        obtain ⟨t22, hf⟩ := ck_e hf
        refine e_getr (pc := 51) 2 3 C dX2_lookAround_51 (by decide) (by decide) g875 rfl t22 ?_
        obtain ⟨b23, eb23, hf⟩ := ob_e hf
        refine e_rf eb23 ?_
        refine e_iload_n (pc := 54) C dX2_lookAround_54 0 rfl rfl ?_
        refine e_dup2 (pc := 55) C dX2_lookAround_55 rfl rfl ?_
        obtain ⟨q24, hf⟩ := ck_e hf
        obtain ⟨n25, tn25, in25⟩ := ix_e q24
        refine e_iald (pc := 56) C dX2_lookAround_56 tn25 in25 ?_
        refine e_iconst (v := (1 : Int32)) (pc := 57) C dX2_lookAround_57 (by decide) ?_
        refine e_iadd (pc := 58) C dX2_lookAround_58 ?_
        obtain ⟨q26, hf⟩ := ck_e hf
        obtain ⟨n27, tn27, in27⟩ := ix_e q26
        refine e_iast (pc := 59) C dX2_lookAround_59 tn27 in27 ?_
        obtain ⟨h28, eh28, hf⟩ := nn_e hf
        refine e_hp eh28 ?_
        have uh28 : m_t h28 = m_t h19 := by rw [eh28]; exact rfl
        refine e_aload_n (pc := 60) C dX2_lookAround_60 1 rfl rfl ?_
        refine e_dup (pc := 61) C dX2_lookAround_61 rfl ?_
        refine e_geti (pc := 62) 2 4 C dX2_lookAround_62 (by decide) (by decide) g876 rfl (e_mt uh28 t22) ?_
        refine e_iconst (v := (1 : Int32)) (pc := 65) C dX2_lookAround_65 (by decide) ?_
        refine e_iadd (pc := 66) C dX2_lookAround_66 ?_
        refine e_puti (pc := 67) 2 4 C dX2_lookAround_67 (by decide) (by decide) g876 rfl rfl rfl rfl (e_mt uh28 t22) ?_
        obtain ⟨h29, eh29, hf⟩ := nn_e hf
        refine e_hp eh29 ?_
        have uh29 : m_t h29 = m_t h19 := by rw [eh29]; exact uh28
        refine e_aload_n (pc := 70) C dX2_lookAround_70 1 rfl rfl ?_
        refine e_aload_n (pc := 71) C dX2_lookAround_71 2 rfl rfl ?_
        obtain ⟨t30, hf⟩ := ck_e hf
        refine e_getrN (pc := 72) 0 6 C dX2_lookAround_72 (by decide) (by decide) g423 rfl t30 ?_
        obtain ⟨b31, eb31, hf⟩ := ob_e hf
        refine e_rf eb31 ?_
        refine e_iload_n (pc := 75) C dX2_lookAround_75 3 rfl rfl ?_
        obtain ⟨q32, hf⟩ := ck_e hf
        obtain ⟨n33, tn33, in33⟩ := ix_e q32
        refine e_iald (pc := 76) C dX2_lookAround_76 tn33 in33 ?_
        obtain ⟨j_88, ej_88, hf⟩ := nn_e hf
        have W_88 : ∀ (s0_88 : Int32), j_88 s0_88 = some y → EE G p l e ({ frames := 2, cells := 0, slots := 0, locals := 49 } : Room) s m args below meth c (none, y) 0 0 88 [(0, .ref v0), (1, .ref v1), (2, .int v2)] [.int s0_88, .ref v0] h29 0 0 := by
          intro s0_88 hf
          rw [ej_88] at hf
          refine e_puti (pc := 88) 2 5 C dX2_lookAround_88 (by decide) (by decide) g877 rfl rfl rfl rfl (e_mt uh29 t22) ?_
          obtain ⟨h34, eh34, hf⟩ := nn_e hf
          refine e_hp eh34 ?_
          have uh34 : m_t h34 = m_t h19 := by rw [eh34]; exact uh29
          refine e_aload_n (pc := 91) C dX2_lookAround_91 0 rfl rfl ?_
          refine e_aload_n (pc := 92) C dX2_lookAround_92 0 rfl rfl ?_
          refine e_geti (pc := 93) 2 6 C dX2_lookAround_93 (by decide) (by decide) g878 rfl (e_mt uh34 t22) ?_
          refine e_aload_n (pc := 96) C dX2_lookAround_96 1 rfl rfl ?_
          refine e_getrN (pc := 97) 0 7 C dX2_lookAround_97 (by decide) (by decide) g426 rfl (e_mt (uh34.trans uh29.symm) t30) ?_
          obtain ⟨b35, eb35, hf⟩ := ob_e hf
          refine e_rf eb35 ?_
          refine e_iload_n (pc := 100) C dX2_lookAround_100 2 rfl rfl ?_
          obtain ⟨q36, hf⟩ := ck_e hf
          obtain ⟨n37, tn37, in37⟩ := ix_e q36
          refine e_iald (pc := 101) C dX2_lookAround_101 tn37 in37 ?_
          obtain ⟨x38, ex38, hf⟩ := nn_e hf
          refine e_topi ex38 ?_
          refine e_mmax (pc := 102) C dX2_lookAround_102 g1010 g1011 g164 g1012 (Nat.le_of_ble_eq_true rfl) (Nat.le_of_ble_eq_true rfl) (Nat.le_of_ble_eq_true rfl) (Nat.le_of_ble_eq_true rfl) ?_
          obtain ⟨x39, ex39, hf⟩ := nn_e hf
          refine e_topi ex39 ?_
          refine e_puti (pc := 105) 2 6 C dX2_lookAround_105 (by decide) (by decide) g878 rfl rfl rfl rfl (e_mt uh34 t22) ?_
          obtain ⟨h40, eh40, hf⟩ := nn_e hf
          refine e_hp eh40 ?_
          have uh40 : m_t h40 = m_t h19 := by rw [eh40]; exact uh34
          exact W_108 h40 hf
        rcases it_e hf with ⟨c41, hf⟩ | ⟨c41, hf⟩
        · refine e_if_ne (pc := 77) (tgt := 84) C dX2_lookAround_77 (by decide) (fun q => absurd c41 q) (fun _ => ?_)
          refine e_iload_n (pc := 80) C dX2_lookAround_80 0 rfl rfl ?_
          refine e_goto (pc := 81) (tgt := 88) C dX2_lookAround_81 (by decide) ?_
          refine e_lv (lv2 := [(0, .ref v0), (1, .ref v1), (2, .int v2)]) [1, 2, 3] rfl ?_
          exact W_88 r21 hf
        · refine e_if_ne (pc := 77) (tgt := 84) C dX2_lookAround_77 (by decide) (fun _ => ?_) (fun q => absurd q c41)
          refine e_aload_n (pc := 84) C dX2_lookAround_84 1 rfl rfl ?_
          refine e_geti (pc := 85) 2 5 C dX2_lookAround_85 (by decide) (by decide) g877 rfl (e_mt uh29 t22) ?_
          refine e_lv (lv2 := [(0, .ref v0), (1, .ref v1), (2, .int v2)]) [1, 2, 3] rfl ?_
          exact W_88 (m_i h29 v0 5) hf
set_option maxHeartbeats 4000000 in
set_option maxRecDepth 100000 in
theorem ct_X2_lookAround {G : GG} {l : Launch} {v0 : Nat} {v1 : Nat} {h : AH} {y : AH} (hf : f_X2_lookAround G v0 v1 h = some y) : Ct G l yX2_lookAround cX2_lookAround 4 none 2 49 0 0 [.ref v0, .ref v1] h (none, y) := by
  refine ct_of (by decide) (Nat.le_of_ble_eq_true rfl) ?_
  intro p e s m args below meth c C hm hr hin
  have C : Cx G cX2_lookAround RX2 p s m args meth c := C
  refine e_lv (lv2 := [(0, .ref v0), (1, .ref v1)]) [0, 1] rfl ?_
  unfold f_X2_lookAround at hf
  refine e_aload_n (pc := 0) C dX2_lookAround_0 0 rfl rfl ?_
  obtain ⟨t1, hf⟩ := ck_e hf
  refine e_getr (pc := 1) 2 3 C dX2_lookAround_1 (by decide) (by decide) g875 rfl t1 ?_
  obtain ⟨b2, eb2, hf⟩ := ob_e hf
  refine e_rf eb2 ?_
  refine e_iconst (v := (0 : Int32)) (pc := 4) C dX2_lookAround_4 (by decide) ?_
  obtain ⟨h3, y4, hf⟩ := ob_e hf
  refine e_callSv (pc := 5) (st := []) C (ct_J7_fill_53178 y4) dX2_lookAround_5 g1007 g789 g162 g790 hd_J7_fill_53178 rfl ⟨Nat.le_of_ble_eq_true rfl, Nat.le_of_ble_eq_true rfl⟩ ⟨Nat.le_of_ble_eq_true rfl, Nat.le_of_ble_eq_true rfl⟩ rfl (Nat.le_of_ble_eq_true rfl) ?_
  refine e_aload_n (pc := 8) C dX2_lookAround_8 0 rfl rfl ?_
  refine e_iconst (v := (0 : Int32)) (pc := 9) C dX2_lookAround_9 (by decide) ?_
  obtain ⟨t5, hf⟩ := ck_e hf
  refine e_puti (pc := 10) 2 4 C dX2_lookAround_10 (by decide) (by decide) g876 rfl rfl rfl rfl t5 ?_
  obtain ⟨h6, eh6, hf⟩ := nn_e hf
  refine e_hp eh6 ?_
  have uh6 : m_t h6 = m_t h3 := by rw [eh6]; exact rfl
  refine e_aload_n (pc := 13) C dX2_lookAround_13 0 rfl rfl ?_
  refine e_iconst (v := (-1 : Int32)) (pc := 14) C dX2_lookAround_14 (by decide) ?_
  refine e_puti (pc := 15) 2 5 C dX2_lookAround_15 (by decide) (by decide) g877 rfl rfl rfl rfl (e_mt uh6 t5) ?_
  obtain ⟨h7, eh7, hf⟩ := nn_e hf
  refine e_hp eh7 ?_
  have uh7 : m_t h7 = m_t h3 := by rw [eh7]; exact uh6
  refine e_aload_n (pc := 18) C dX2_lookAround_18 0 rfl rfl ?_
  refine e_iconst (v := (0 : Int32)) (pc := 19) C dX2_lookAround_19 (by decide) ?_
  refine e_puti (pc := 20) 2 6 C dX2_lookAround_20 (by decide) (by decide) g878 rfl rfl rfl rfl (e_mt uh7 t5) ?_
  obtain ⟨h8, eh8, hf⟩ := nn_e hf
  refine e_hp eh8 ?_
  have uh8 : m_t h8 = m_t h3 := by rw [eh8]; exact uh7
  refine e_iconst (v := (0 : Int32)) (pc := 23) C dX2_lookAround_23 (by decide) ?_
  refine e_istore_n (pc := 24) (lv2 := [(2, .int (0 : Int32)), (0, .ref v0), (1, .ref v1)]) C hm dX2_lookAround_24 rfl (by decide) rfl ?_
  refine e_lv (lv2 := [(0, .ref v0), (1, .ref v1), (2, .int (0 : Int32))]) [1, 2, 0] rfl ?_
  exact el_X2_lookAround_25 C hm hr hin bN (0 : Int32) h8 hf
