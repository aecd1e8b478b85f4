/-! Functions and walks, by a program of ours: X2_stack X2_middleWant X2_commonestWant X2_wantsWithin X11_knobAgo X2_valueOf X2_drop X2_heldHole X2_joined X2_holeFor X0_suffer X11_warmthAfter X0_go X11_mile X11_pull X11_withKnob X11_turn X0_takes X0_canChange X0_change X11_seats X11_say X6_takeBack X11_undo X11_goTrial X0_sufferedByAll X11_ahead X0_sufferingBy X11_which -/
theorem dX2_stack_0 : decode cX2_stack 0 = .ok (.aload_n 0, 1) := by decide +kernel
theorem dX2_stack_1 : decode cX2_stack 1 = .ok (.getfield 15, 3) := by decide +kernel
theorem dX2_stack_4 : decode cX2_stack 4 = .ok (.bipush 64, 2) := by decide +kernel
theorem dX2_stack_6 : decode cX2_stack 6 = .ok (.if_icmp .ge 23, 3) := by decide +kernel
theorem dX2_stack_9 : decode cX2_stack 9 = .ok (.aload_n 0, 1) := by decide +kernel
theorem dX2_stack_10 : decode cX2_stack 10 = .ok (.getfield 11, 3) := by decide +kernel
theorem dX2_stack_13 : decode cX2_stack 13 = .ok (.aload_n 0, 1) := by decide +kernel
theorem dX2_stack_14 : decode cX2_stack 14 = .ok (.getfield 15, 3) := by decide +kernel
theorem dX2_stack_17 : decode cX2_stack 17 = .ok (.lload_n 1, 1) := by decide +kernel
theorem dX2_stack_18 : decode cX2_stack 18 = .ok (.lastore, 1) := by decide +kernel
theorem dX2_stack_19 : decode cX2_stack 19 = .ok (.aload_n 0, 1) := by decide +kernel
theorem dX2_stack_20 : decode cX2_stack 20 = .ok (.dup, 1) := by decide +kernel
theorem dX2_stack_21 : decode cX2_stack 21 = .ok (.getfield 15, 3) := by decide +kernel
theorem dX2_stack_24 : decode cX2_stack 24 = .ok (.iconst 1, 1) := by decide +kernel
theorem dX2_stack_25 : decode cX2_stack 25 = .ok (.iadd, 1) := by decide +kernel
theorem dX2_stack_26 : decode cX2_stack 26 = .ok (.putfield 15, 3) := by decide +kernel
theorem dX2_stack_29 : decode cX2_stack 29 = .ok (.return_, 1) := by decide +kernel
noncomputable def f_X2_stack (G : GG) (v0 : Nat) (v1 : Int64) (h : AH) : Option (AH) :=
ck (m_t h v0 = .inl 2) <|
if (64 : Int32) ≤ (m_i h v0 2) then (some h) else
ob (m_r h v0 1) fun b3 =>
ck (ixb h b3 .long (m_i h v0 2) = true) <|
nn (m_sl h b3 (m_i h v0 2).toNatClampNeg v1) fun h6 =>
nn (m_si h6 v0 2 ((m_i h6 v0 2) + (1 : Int32))) fun h7 =>
some h7
set_option maxHeartbeats 4000000 in
set_option maxRecDepth 100000 in
theorem ct_X2_stack {G : GG} {l : Launch} {v0 : Nat} {v1 : Int64} {h : AH} {y : AH} (hf : f_X2_stack G v0 v1 h = some y) : Ct G l yX2_stack cX2_stack 3 none 0 0 0 0 [.ref v0, .long v1] h (none, y) := by
  refine ct_of (by decide) (Nat.le_of_ble_eq_true rfl) ?_
  intro p e s m args below meth c C hm hr hin
  have C : Cx G cX2_stack RX2 p s m args meth c := C
  refine e_lv (lv2 := [(0, .ref v0), (1, .long v1)]) [0, 1] rfl ?_
  unfold f_X2_stack at hf
  refine e_aload_n (pc := 0) C dX2_stack_0 0 rfl rfl ?_
  obtain ⟨t1, hf⟩ := ck_e hf
  refine e_geti (pc := 1) 2 2 C dX2_stack_1 (by decide) (by decide) g874 rfl t1 ?_
  refine e_bipush (v := (64 : Int32)) (pc := 4) C dX2_stack_4 (by decide) ?_
  rcases it_e hf with ⟨c2, hf⟩ | ⟨c2, hf⟩
  · refine e_icmp_ge (pc := 6) (tgt := 29) C dX2_stack_6 (by decide) (fun _ => ?_) (fun q => absurd c2 q)
    obtain rfl := so_e hf
    exact e_vret (pc := 29) C hr dX2_stack_29 (Nat.le_of_ble_eq_true rfl) (Nat.le_of_ble_eq_true rfl)
  · refine e_icmp_ge (pc := 6) (tgt := 29) C dX2_stack_6 (by decide) (fun q => absurd q c2) (fun _ => ?_)
    refine e_aload_n (pc := 9) C dX2_stack_9 0 rfl rfl ?_
    refine e_getr (pc := 10) 2 1 C dX2_stack_10 (by decide) (by decide) g873 rfl t1 ?_
    obtain ⟨b3, eb3, hf⟩ := ob_e hf
    refine e_rf eb3 ?_
    refine e_aload_n (pc := 13) C dX2_stack_13 0 rfl rfl ?_
    refine e_geti (pc := 14) 2 2 C dX2_stack_14 (by decide) (by decide) g874 rfl t1 ?_
    refine e_lload_n (pc := 17) C dX2_stack_17 1 rfl rfl ?_
    obtain ⟨q4, hf⟩ := ck_e hf
    obtain ⟨n5, tn5, in5⟩ := ix_e q4
    refine e_last (pc := 18) C dX2_stack_18 tn5 in5 ?_
    obtain ⟨h6, eh6, hf⟩ := nn_e hf
    refine e_hp eh6 ?_
    have uh6 : m_t h6 = m_t h := by rw [eh6]; exact rfl
    refine e_aload_n (pc := 19) C dX2_stack_19 0 rfl rfl ?_
    refine e_dup (pc := 20) C dX2_stack_20 rfl ?_
    refine e_geti (pc := 21) 2 2 C dX2_stack_21 (by decide) (by decide) g874 rfl (e_mt uh6 t1) ?_
    refine e_iconst (v := (1 : Int32)) (pc := 24) C dX2_stack_24 (by decide) ?_
    refine e_iadd (pc := 25) C dX2_stack_25 ?_
    refine e_puti (pc := 26) 2 2 C dX2_stack_26 (by decide) (by decide) g874 rfl rfl rfl rfl (e_mt uh6 t1) ?_
    obtain ⟨h7, eh7, hf⟩ := nn_e hf
    refine e_hp eh7 ?_
    have uh7 : m_t h7 = m_t h := by rw [eh7]; exact uh6
    obtain rfl := so_e hf
    exact e_vret (pc := 29) C hr dX2_stack_29 (Nat.le_of_ble_eq_true rfl) (Nat.le_of_ble_eq_true rfl)
theorem dX2_middleWant_0 : decode cX2_middleWant 0 = .ok (.iconst 0, 1) := by decide +kernel
theorem dX2_middleWant_1 : decode cX2_middleWant 1 = .ok (.istore_n 2, 1) := by decide +kernel
theorem dX2_middleWant_2 : decode cX2_middleWant 2 = .ok (.iconst 0, 1) := by decide +kernel
theorem dX2_middleWant_3 : decode cX2_middleWant 3 = .ok (.istore_n 3, 1) := by decide +kernel
theorem dX2_middleWant_4 : decode cX2_middleWant 4 = .ok (.iload_n 3, 1) := by decide +kernel
theorem dX2_middleWant_5 : decode cX2_middleWant 5 = .ok (.bipush 6, 2) := by decide +kernel
theorem dX2_middleWant_7 : decode cX2_middleWant 7 = .ok (.if_icmp .ge 37, 3) := by decide +kernel
theorem dX2_middleWant_10 : decode cX2_middleWant 10 = .ok (.iload_n 2, 1) := by decide +kernel
theorem dX2_middleWant_11 : decode cX2_middleWant 11 = .ok (.aload_n 0, 1) := by decide +kernel
theorem dX2_middleWant_12 : decode cX2_middleWant 12 = .ok (.getfield 19, 3) := by decide +kernel
theorem dX2_middleWant_15 : decode cX2_middleWant 15 = .ok (.iload_n 3, 1) := by decide +kernel
theorem dX2_middleWant_16 : decode cX2_middleWant 16 = .ok (.iaload, 1) := by decide +kernel
theorem dX2_middleWant_17 : decode cX2_middleWant 17 = .ok (.iadd, 1) := by decide +kernel
theorem dX2_middleWant_18 : decode cX2_middleWant 18 = .ok (.istore_n 2, 1) := by decide +kernel
theorem dX2_middleWant_19 : decode cX2_middleWant 19 = .ok (.iconst 2, 1) := by decide +kernel
theorem dX2_middleWant_20 : decode cX2_middleWant 20 = .ok (.iload_n 2, 1) := by decide +kernel
theorem dX2_middleWant_21 : decode cX2_middleWant 21 = .ok (.imul, 1) := by decide +kernel
theorem dX2_middleWant_22 : decode cX2_middleWant 22 = .ok (.aload_n 0, 1) := by decide +kernel
theorem dX2_middleWant_23 : decode cX2_middleWant 23 = .ok (.getfield 23, 3) := by decide +kernel
theorem dX2_middleWant_26 : decode cX2_middleWant 26 = .ok (.if_icmp .lt 12, 3) := by decide +kernel
theorem dX2_middleWant_29 : decode cX2_middleWant 29 = .ok (.aload_n 0, 1) := by decide +kernel
theorem dX2_middleWant_30 : decode cX2_middleWant 30 = .ok (.getfield 23, 3) := by decide +kernel
theorem dX2_middleWant_33 : decode cX2_middleWant 33 = .ok (.ifCond .le 5, 3) := by decide +kernel
theorem dX2_middleWant_36 : decode cX2_middleWant 36 = .ok (.iload_n 3, 1) := by decide +kernel
theorem dX2_middleWant_37 : decode cX2_middleWant 37 = .ok (.ireturn, 1) := by decide +kernel
theorem dX2_middleWant_38 : decode cX2_middleWant 38 = .ok (.iinc 3 1, 3) := by decide +kernel
theorem dX2_middleWant_41 : decode cX2_middleWant 41 = .ok (.goto (-37), 3) := by decide +kernel
theorem dX2_middleWant_44 : decode cX2_middleWant 44 = .ok (.iload_n 1, 1) := by decide +kernel
theorem dX2_middleWant_45 : decode cX2_middleWant 45 = .ok (.ireturn, 1) := by decide +kernel
noncomputable def F_X2_middleWant_4 (G : GG) (v0 : Nat) (v1 : Int32) (self_4 : Int32 → Int32 → AH → Option (Int32 × AH)) (v2 : Int32) (v3 : Int32) (h : AH) : Option (Int32 × AH) :=
if (6 : Int32) ≤ v3 then (some (v1, h)) else
ck (m_t h v0 = .inl 2) <|
ob (m_r h v0 3) fun b3 =>
ck (ixb h b3 .int v3 = true) <|
nn (v2 + (m_i h b3 v3.toNatClampNeg)) fun x6 =>
nn (fun (uu_38 : Unit) => (nn (v3 + (1 : Int32)) fun x7 =>
self_4 x6 x7 h)) fun j_38 =>
if ((2 : Int32) * x6) < (m_i h v0 4) then (j_38 ()) else
if (m_i h v0 4) ≤ 0 then (j_38 ()) else
some (v3, h)
noncomputable def f_X2_middleWant (G : GG) (v0 : Nat) (v1 : Int32) (h : AH) : Option (Int32 × AH) :=
lq2 (F_X2_middleWant_4 G v0 v1 ) bN (0 : Int32) (0 : Int32) h
set_option maxHeartbeats 4000000 in
set_option maxRecDepth 100000 in
theorem el_X2_middleWant_4 {G : GG} {p : Program} {l : Launch} {e : Env} {s : State} {m : MethodId} {args : Array Value} {below : List Frame} {meth : Method} {c : Code} {y : Int32 × AH} (C : Cx G cX2_middleWant RX2 p s m args meth c) (hm : c.maxLocals = 4) (hr : meth.sig.returnType = (some .int)) (hin : meth.name = yX2_middleWant.name) {v0 : Nat} {v1 : Int32}  :
    ∀ (n : Nat) (v2 : Int32) (v3 : Int32) (h : AH), lq2 (F_X2_middleWant_4 G v0 v1) n v2 v3 h = some y → EE G p l e ({ frames := 0, cells := 0, slots := 0, locals := 0 } : Room) s m args below meth c (some (.int y.1), y.2) 0 0 4 [(0, .ref v0), (1, .int v1), (2, .int v2), (3, .int v3)] [] h 0 0 := by
  intro n
  induction n with
  | zero => intro v2 v3 h hf; exact (no_e hf).elim
  | succ n ih_4 =>
    intro v2 v3 h hf
    have hf : F_X2_middleWant_4 G v0 v1 (lq2 (F_X2_middleWant_4 G v0 v1) n) v2 v3 h = some y := hf
    generalize lq2 (F_X2_middleWant_4 G v0 v1) n = self_4 at hf ih_4
    unfold F_X2_middleWant_4 at hf
    refine e_iload_n (pc := 4) C dX2_middleWant_4 3 rfl rfl ?_
    refine e_bipush (v := (6 : Int32)) (pc := 5) C dX2_middleWant_5 (by decide) ?_
    rcases it_e hf with ⟨c1, hf⟩ | ⟨c1, hf⟩
    · refine e_icmp_ge (pc := 7) (tgt := 44) C dX2_middleWant_7 (by decide) (fun _ => ?_) (fun q => absurd c1 q)
      refine e_iload_n (pc := 44) C dX2_middleWant_44 1 rfl rfl ?_
      obtain rfl := so_e hf
      exact e_iret (pc := 45) C hr dX2_middleWant_45 (Nat.le_of_ble_eq_true rfl) (Nat.le_of_ble_eq_true rfl)
    · refine e_icmp_ge (pc := 7) (tgt := 44) C dX2_middleWant_7 (by decide) (fun q => absurd q c1) (fun _ => ?_)
      refine e_iload_n (pc := 10) C dX2_middleWant_10 2 rfl rfl ?_
      refine e_aload_n (pc := 11) C dX2_middleWant_11 0 rfl rfl ?_
      obtain ⟨t2, hf⟩ := ck_e hf
      refine e_getr (pc := 12) 2 3 C dX2_middleWant_12 (by decide) (by decide) g875 rfl t2 ?_
      obtain ⟨b3, eb3, hf⟩ := ob_e hf
      refine e_rf eb3 ?_
      refine e_iload_n (pc := 15) C dX2_middleWant_15 3 rfl rfl ?_
      obtain ⟨q4, hf⟩ := ck_e hf
      obtain ⟨n5, tn5, in5⟩ := ix_e q4
      refine e_iald (pc := 16) C dX2_middleWant_16 tn5 in5 ?_
      refine e_iadd (pc := 17) C dX2_middleWant_17 ?_
      obtain ⟨x6, ex6, hf⟩ := nn_e hf
      refine e_topi ex6 ?_
      refine e_istore_n (pc := 18) (lv2 := [(2, .int x6), (0, .ref v0), (1, .int v1), (3, .int v3)]) C hm dX2_middleWant_18 rfl (by decide) rfl ?_
      refine e_iconst (v := (2 : Int32)) (pc := 19) C dX2_middleWant_19 (by decide) ?_
      refine e_iload_n (pc := 20) C dX2_middleWant_20 0 rfl rfl ?_
      refine e_imul (pc := 21) C dX2_middleWant_21 ?_
      refine e_aload_n (pc := 22) C dX2_middleWant_22 1 rfl rfl ?_
      refine e_geti (pc := 23) 2 4 C dX2_middleWant_23 (by decide) (by decide) g876 rfl t2 ?_
      obtain ⟨j_38, ej_38, hf⟩ := nn_e hf
      have W_38 : ∀ (uu_38 : Unit), j_38 uu_38 = some y → EE G p l e ({ frames := 0, cells := 0, slots := 0, locals := 0 } : Room) s m args below meth c (some (.int y.1), y.2) 0 0 38 [(0, .ref v0), (1, .int v1), (2, .int x6), (3, .int v3)] [] h 0 0 := by
        intro uu_38 hf
        rw [ej_38] at hf
        obtain ⟨x7, ex7, hf⟩ := nn_e hf
        refine e_iinc (pc := 38) (v := x7) (lv2 := [(3, .int x7), (0, .ref v0), (1, .int v1), (2, .int x6)]) C hm dX2_middleWant_38 3 rfl (by rw [ex7]; rfl) (by decide) rfl ?_
        refine e_goto (pc := 41) (tgt := 4) C dX2_middleWant_41 (by decide) ?_
        refine e_lv (lv2 := [(0, .ref v0), (1, .int v1), (2, .int x6), (3, .int x7)]) [1, 2, 3, 0] rfl ?_
        exact ih_4 x6 x7 h hf
      rcases it_e hf with ⟨c8, hf⟩ | ⟨c8, hf⟩
      · refine e_icmp_lt (pc := 26) (tgt := 38) C dX2_middleWant_26 (by decide) (fun _ => ?_) (fun q => absurd c8 q)
        refine e_lv (lv2 := [(0, .ref v0), (1, .int v1), (2, .int x6), (3, .int v3)]) [1, 2, 0, 3] rfl ?_
        exact W_38 () hf
      · refine e_icmp_lt (pc := 26) (tgt := 38) C dX2_middleWant_26 (by decide) (fun q => absurd q c8) (fun _ => ?_)
        refine e_aload_n (pc := 29) C dX2_middleWant_29 1 rfl rfl ?_
        refine e_geti (pc := 30) 2 4 C dX2_middleWant_30 (by decide) (by decide) g876 rfl t2 ?_
        rcases it_e hf with ⟨c9, hf⟩ | ⟨c9, hf⟩
        · refine e_if_le (pc := 33) (tgt := 38) C dX2_middleWant_33 (by decide) (fun _ => ?_) (fun q => absurd c9 q)
          refine e_lv (lv2 := [(0, .ref v0), (1, .int v1), (2, .int x6), (3, .int v3)]) [1, 2, 0, 3] rfl ?_
          exact W_38 () hf
        · refine e_if_le (pc := 33) (tgt := 38) C dX2_middleWant_33 (by decide) (fun q => absurd q c9) (fun _ => ?_)
          refine e_iload_n (pc := 36) C dX2_middleWant_36 3 rfl rfl ?_
          obtain rfl := so_e hf
          exact e_iret (pc := 37) C hr dX2_middleWant_37 (Nat.le_of_ble_eq_true rfl) (Nat.le_of_ble_eq_true rfl)
set_option maxHeartbeats 4000000 in
set_option maxRecDepth 100000 in
theorem ct_X2_middleWant {G : GG} {l : Launch} {v0 : Nat} {v1 : Int32} {h : AH} {y : Int32 × AH} (hf : f_X2_middleWant G v0 v1 h = some y) : Ct G l yX2_middleWant cX2_middleWant 4 (some .int) 0 0 0 0 [.ref v0, .int v1] h (some (.int y.1), y.2) := by
  refine ct_of (by decide) (Nat.le_of_ble_eq_true rfl) ?_
  intro p e s m args below meth c C hm hr hin
  have C : Cx G cX2_middleWant RX2 p s m args meth c := C
  refine e_lv (lv2 := [(0, .ref v0), (1, .int v1)]) [0, 1] rfl ?_
  unfold f_X2_middleWant at hf
  refine e_iconst (v := (0 : Int32)) (pc := 0) C dX2_middleWant_0 (by decide) ?_
  refine e_istore_n (pc := 1) (lv2 := [(2, .int (0 : Int32)), (0, .ref v0), (1, .int v1)]) C hm dX2_middleWant_1 rfl (by decide) rfl ?_
  refine e_iconst (v := (0 : Int32)) (pc := 2) C dX2_middleWant_2 (by decide) ?_
  refine e_istore_n (pc := 3) (lv2 := [(3, .int (0 : Int32)), (2, .int (0 : Int32)), (0, .ref v0), (1, .int v1)]) C hm dX2_middleWant_3 rfl (by decide) rfl ?_
  refine e_lv (lv2 := [(0, .ref v0), (1, .int v1), (2, .int (0 : Int32)), (3, .int (0 : Int32))]) [2, 3, 1, 0] rfl ?_
  exact el_X2_middleWant_4 C hm hr hin bN (0 : Int32) (0 : Int32) h hf
theorem dX2_commonestWant_0 : decode cX2_commonestWant 0 = .ok (.iconst 0, 1) := by decide +kernel
theorem dX2_commonestWant_1 : decode cX2_commonestWant 1 = .ok (.istore_n 2, 1) := by decide +kernel
theorem dX2_commonestWant_2 : decode cX2_commonestWant 2 = .ok (.iload_n 1, 1) := by decide +kernel
theorem dX2_commonestWant_3 : decode cX2_commonestWant 3 = .ok (.istore_n 3, 1) := by decide +kernel
theorem dX2_commonestWant_4 : decode cX2_commonestWant 4 = .ok (.iconst 0, 1) := by decide +kernel
theorem dX2_commonestWant_5 : decode cX2_commonestWant 5 = .ok (.istore 4, 2) := by decide +kernel
theorem dX2_commonestWant_7 : decode cX2_commonestWant 7 = .ok (.iload 4, 2) := by decide +kernel
theorem dX2_commonestWant_9 : decode cX2_commonestWant 9 = .ok (.bipush 6, 2) := by decide +kernel
theorem dX2_commonestWant_11 : decode cX2_commonestWant 11 = .ok (.if_icmp .ge 31, 3) := by decide +kernel
theorem dX2_commonestWant_14 : decode cX2_commonestWant 14 = .ok (.aload_n 0, 1) := by decide +kernel
theorem dX2_commonestWant_15 : decode cX2_commonestWant 15 = .ok (.getfield 19, 3) := by decide +kernel
theorem dX2_commonestWant_18 : decode cX2_commonestWant 18 = .ok (.iload 4, 2) := by decide +kernel
theorem dX2_commonestWant_20 : decode cX2_commonestWant 20 = .ok (.iaload, 1) := by decide +kernel
theorem dX2_commonestWant_21 : decode cX2_commonestWant 21 = .ok (.iload_n 2, 1) := by decide +kernel
theorem dX2_commonestWant_22 : decode cX2_commonestWant 22 = .ok (.if_icmp .le 14, 3) := by decide +kernel
theorem dX2_commonestWant_25 : decode cX2_commonestWant 25 = .ok (.aload_n 0, 1) := by decide +kernel
theorem dX2_commonestWant_26 : decode cX2_commonestWant 26 = .ok (.getfield 19, 3) := by decide +kernel
theorem dX2_commonestWant_29 : decode cX2_commonestWant 29 = .ok (.iload 4, 2) := by decide +kernel
theorem dX2_commonestWant_31 : decode cX2_commonestWant 31 = .ok (.iaload, 1) := by decide +kernel
theorem dX2_commonestWant_32 : decode cX2_commonestWant 32 = .ok (.istore_n 2, 1) := by decide +kernel
theorem dX2_commonestWant_33 : decode cX2_commonestWant 33 = .ok (.iload 4, 2) := by decide +kernel
theorem dX2_commonestWant_35 : decode cX2_commonestWant 35 = .ok (.istore_n 3, 1) := by decide +kernel
theorem dX2_commonestWant_36 : decode cX2_commonestWant 36 = .ok (.iinc 4 1, 3) := by decide +kernel
theorem dX2_commonestWant_39 : decode cX2_commonestWant 39 = .ok (.goto (-32), 3) := by decide +kernel
theorem dX2_commonestWant_42 : decode cX2_commonestWant 42 = .ok (.iload_n 3, 1) := by decide +kernel
theorem dX2_commonestWant_43 : decode cX2_commonestWant 43 = .ok (.ireturn, 1) := by decide +kernel
noncomputable def F_X2_commonestWant_7 (G : GG) (v0 : Nat) (self_7 : Int32 → Int32 → Int32 → AH → Option (Int32 × AH)) (v2 : Int32) (v3 : Int32) (v4 : Int32) (h : AH) : Option (Int32 × AH) :=
if (6 : Int32) ≤ v4 then (some (v3, h)) else
ck (m_t h v0 = .inl 2) <|
ob (m_r h v0 3) fun b3 =>
ck (ixb h b3 .int v4 = true) <|
nn (fun (v2_36 : Int32) (v3_36 : Int32) => (nn (v4 + (1 : Int32)) fun x6 =>
self_7 v2_36 v3_36 x6 h)) fun j_36 =>
if (m_i h b3 v4.toNatClampNeg) ≤ v2 then (j_36 v2 v3) else
ob (m_r h v0 3) fun b8 =>
ck (ixb h b8 .int v4 = true) <|
nn (m_i h b8 v4.toNatClampNeg) fun x11 =>
j_36 x11 v4
noncomputable def f_X2_commonestWant (G : GG) (v0 : Nat) (v1 : Int32) (h : AH) : Option (Int32 × AH) :=
lq3 (F_X2_commonestWant_7 G v0 ) bN (0 : Int32) v1 (0 : Int32) h
set_option maxHeartbeats 4000000 in
set_option maxRecDepth 100000 in
theorem el_X2_commonestWant_7 {G : GG} {p : Program} {l : Launch} {e : Env} {s : State} {m : MethodId} {args : Array Value} {below : List Frame} {meth : Method} {c : Code} {y : Int32 × AH} (C : Cx G cX2_commonestWant RX2 p s m args meth c) (hm : c.maxLocals = 5) (hr : meth.sig.returnType = (some .int)) (hin : meth.name = yX2_commonestWant.name) {v0 : Nat}  :
    ∀ (n : Nat) (v2 : Int32) (v3 : Int32) (v4 : Int32) (h : AH), lq3 (F_X2_commonestWant_7 G v0) n v2 v3 v4 h = some y → EE G p l e ({ frames := 0, cells := 0, slots := 0, locals := 0 } : Room) s m args below meth c (some (.int y.1), y.2) 0 0 7 [(0, .ref v0), (2, .int v2), (3, .int v3), (4, .int v4)] [] h 0 0 := by
  intro n
  induction n with
  | zero => intro v2 v3 v4 h hf; exact (no_e hf).elim
  | succ n ih_7 =>
    intro v2 v3 v4 h hf
    have hf : F_X2_commonestWant_7 G v0 (lq3 (F_X2_commonestWant_7 G v0) n) v2 v3 v4 h = some y := hf
    generalize lq3 (F_X2_commonestWant_7 G v0) n = self_7 at hf ih_7
    unfold F_X2_commonestWant_7 at hf
    refine e_iload (pc := 7) C dX2_commonestWant_7 3 rfl ?_
    refine e_bipush (v := (6 : Int32)) (pc := 9) C dX2_commonestWant_9 (by decide) ?_
    rcases it_e hf with ⟨c1, hf⟩ | ⟨c1, hf⟩
    · refine e_icmp_ge (pc := 11) (tgt := 42) C dX2_commonestWant_11 (by decide) (fun _ => ?_) (fun q => absurd c1 q)
      refine e_iload_n (pc := 42) C dX2_commonestWant_42 2 rfl rfl ?_
      obtain rfl := so_e hf
      exact e_iret (pc := 43) C hr dX2_commonestWant_43 (Nat.le_of_ble_eq_true rfl) (Nat.le_of_ble_eq_true rfl)
    · refine e_icmp_ge (pc := 11) (tgt := 42) C dX2_commonestWant_11 (by decide) (fun q => absurd q c1) (fun _ => ?_)
      refine e_aload_n (pc := 14) C dX2_commonestWant_14 0 rfl rfl ?_
      obtain ⟨t2, hf⟩ := ck_e hf
      refine e_getr (pc := 15) 2 3 C dX2_commonestWant_15 (by decide) (by decide) g875 rfl t2 ?_
      obtain ⟨b3, eb3, hf⟩ := ob_e hf
      refine e_rf eb3 ?_
      refine e_iload (pc := 18) C dX2_commonestWant_18 3 rfl ?_
      obtain ⟨q4, hf⟩ := ck_e hf
      obtain ⟨n5, tn5, in5⟩ := ix_e q4
      refine e_iald (pc := 20) C dX2_commonestWant_20 tn5 in5 ?_
      refine e_iload_n (pc := 21) C dX2_commonestWant_21 1 rfl rfl ?_
      obtain ⟨j_36, ej_36, hf⟩ := nn_e hf
      have W_36 : ∀ (v2_36 : Int32) (v3_36 : Int32), j_36 v2_36 v3_36 = some y → EE G p l e ({ frames := 0, cells := 0, slots := 0, locals := 0 } : Room) s m args below meth c (some (.int y.1), y.2) 0 0 36 [(0, .ref v0), (2, .int v2_36), (3, .int v3_36), (4, .int v4)] [] h 0 0 := by
        intro v2_36 v3_36 hf
        rw [ej_36] at hf
        obtain ⟨x6, ex6, hf⟩ := nn_e hf
        refine e_iinc (pc := 36) (v := x6) (lv2 := [(4, .int x6), (0, .ref v0), (2, .int v2_36), (3, .int v3_36)]) C hm dX2_commonestWant_36 3 rfl (by rw [ex6]; rfl) (by decide) rfl ?_
        refine e_goto (pc := 39) (tgt := 7) C dX2_commonestWant_39 (by decide) ?_
        refine e_lv (lv2 := [(0, .ref v0), (2, .int v2_36), (3, .int v3_36), (4, .int x6)]) [1, 2, 3, 0] rfl ?_
        exact ih_7 v2_36 v3_36 x6 h hf
      rcases it_e hf with ⟨c7, hf⟩ | ⟨c7, hf⟩
      · refine e_icmp_le (pc := 22) (tgt := 36) C dX2_commonestWant_22 (by decide) (fun _ => ?_) (fun q => absurd c7 q)
        exact W_36 v2 v3 hf
      · refine e_icmp_le (pc := 22) (tgt := 36) C dX2_commonestWant_22 (by decide) (fun q => absurd q c7) (fun _ => ?_)
        refine e_aload_n (pc := 25) C dX2_commonestWant_25 0 rfl rfl ?_
        refine e_getr (pc := 26) 2 3 C dX2_commonestWant_26 (by decide) (by decide) g875 rfl t2 ?_
        obtain ⟨b8, eb8, hf⟩ := ob_e hf
        refine e_rf eb8 ?_
        refine e_iload (pc := 29) C dX2_commonestWant_29 3 rfl ?_
        obtain ⟨q9, hf⟩ := ck_e hf
        obtain ⟨n10, tn10, in10⟩ := ix_e q9
        refine e_iald (pc := 31) C dX2_commonestWant_31 tn10 in10 ?_
        obtain ⟨x11, ex11, hf⟩ := nn_e hf
        refine e_topi ex11 ?_
        refine e_istore_n (pc := 32) (lv2 := [(2, .int x11), (0, .ref v0), (3, .int v3), (4, .int v4)]) C hm dX2_commonestWant_32 rfl (by decide) rfl ?_
        refine e_iload (pc := 33) C dX2_commonestWant_33 3 rfl ?_
        refine e_istore_n (pc := 35) (lv2 := [(3, .int v4), (2, .int x11), (0, .ref v0), (4, .int v4)]) C hm dX2_commonestWant_35 rfl (by decide) rfl ?_
        refine e_lv (lv2 := [(0, .ref v0), (2, .int x11), (3, .int v4), (4, .int v4)]) [2, 1, 0, 3] rfl ?_
        exact W_36 x11 v4 hf
set_option maxHeartbeats 4000000 in
set_option maxRecDepth 100000 in
theorem ct_X2_commonestWant {G : GG} {l : Launch} {v0 : Nat} {v1 : Int32} {h : AH} {y : Int32 × AH} (hf : f_X2_commonestWant G v0 v1 h = some y) : Ct G l yX2_commonestWant cX2_commonestWant 5 (some .int) 0 0 0 0 [.ref v0, .int v1] h (some (.int y.1), y.2) := by
  refine ct_of (by decide) (Nat.le_of_ble_eq_true rfl) ?_
  intro p e s m args below meth c C hm hr hin
  have C : Cx G cX2_commonestWant RX2 p s m args meth c := C
  refine e_lv (lv2 := [(0, .ref v0), (1, .int v1)]) [0, 1] rfl ?_
  unfold f_X2_commonestWant at hf
  refine e_iconst (v := (0 : Int32)) (pc := 0) C dX2_commonestWant_0 (by decide) ?_
  refine e_istore_n (pc := 1) (lv2 := [(2, .int (0 : Int32)), (0, .ref v0), (1, .int v1)]) C hm dX2_commonestWant_1 rfl (by decide) rfl ?_
  refine e_iload_n (pc := 2) C dX2_commonestWant_2 2 rfl rfl ?_
  refine e_istore_n (pc := 3) (lv2 := [(3, .int v1), (2, .int (0 : Int32)), (0, .ref v0), (1, .int v1)]) C hm dX2_commonestWant_3 rfl (by decide) rfl ?_
  refine e_iconst (v := (0 : Int32)) (pc := 4) C dX2_commonestWant_4 (by decide) ?_
  refine e_istore (pc := 5) (lv2 := [(4, .int (0 : Int32)), (3, .int v1), (2, .int (0 : Int32)), (0, .ref v0), (1, .int v1)]) C hm dX2_commonestWant_5 (by decide) rfl ?_
  refine e_lv (lv2 := [(0, .ref v0), (2, .int (0 : Int32)), (3, .int v1), (4, .int (0 : Int32))]) [3, 2, 1, 0] rfl ?_
  exact el_X2_commonestWant_7 C hm hr hin bN (0 : Int32) v1 (0 : Int32) h hf
theorem dX2_wantsWithin_0 : decode cX2_wantsWithin 0 = .ok (.iconst 0, 1) := by decide +kernel
theorem dX2_wantsWithin_1 : decode cX2_wantsWithin 1 = .ok (.istore_n 3, 1) := by decide +kernel
theorem dX2_wantsWithin_2 : decode cX2_wantsWithin 2 = .ok (.iconst 0, 1) := by decide +kernel
theorem dX2_wantsWithin_3 : decode cX2_wantsWithin 3 = .ok (.iload_n 1, 1) := by decide +kernel
theorem dX2_wantsWithin_4 : decode cX2_wantsWithin 4 = .ok (.invokestatic 92, 3) := by decide +kernel
theorem dX2_wantsWithin_7 : decode cX2_wantsWithin 7 = .ok (.istore 4, 2) := by decide +kernel
theorem dX2_wantsWithin_9 : decode cX2_wantsWithin 9 = .ok (.iload 4, 2) := by decide +kernel
theorem dX2_wantsWithin_11 : decode cX2_wantsWithin 11 = .ok (.iload_n 2, 1) := by decide +kernel
theorem dX2_wantsWithin_12 : decode cX2_wantsWithin 12 = .ok (.if_icmp .ge 26, 3) := by decide +kernel
theorem dX2_wantsWithin_15 : decode cX2_wantsWithin 15 = .ok (.iload 4, 2) := by decide +kernel
theorem dX2_wantsWithin_17 : decode cX2_wantsWithin 17 = .ok (.bipush 6, 2) := by decide +kernel
theorem dX2_wantsWithin_19 : decode cX2_wantsWithin 19 = .ok (.if_icmp .ge 19, 3) := by decide +kernel
theorem dX2_wantsWithin_22 : decode cX2_wantsWithin 22 = .ok (.iload_n 3, 1) := by decide +kernel
theorem dX2_wantsWithin_23 : decode cX2_wantsWithin 23 = .ok (.aload_n 0, 1) := by decide +kernel
theorem dX2_wantsWithin_24 : decode cX2_wantsWithin 24 = .ok (.getfield 19, 3) := by decide +kernel
theorem dX2_wantsWithin_27 : decode cX2_wantsWithin 27 = .ok (.iload 4, 2) := by decide +kernel
theorem dX2_wantsWithin_29 : decode cX2_wantsWithin 29 = .ok (.iaload, 1) := by decide +kernel
theorem dX2_wantsWithin_30 : decode cX2_wantsWithin 30 = .ok (.iadd, 1) := by decide +kernel
theorem dX2_wantsWithin_31 : decode cX2_wantsWithin 31 = .ok (.istore_n 3, 1) := by decide +kernel
theorem dX2_wantsWithin_32 : decode cX2_wantsWithin 32 = .ok (.iinc 4 1, 3) := by decide +kernel
theorem dX2_wantsWithin_35 : decode cX2_wantsWithin 35 = .ok (.goto (-26), 3) := by decide +kernel
theorem dX2_wantsWithin_38 : decode cX2_wantsWithin 38 = .ok (.iload_n 3, 1) := by decide +kernel
theorem dX2_wantsWithin_39 : decode cX2_wantsWithin 39 = .ok (.ireturn, 1) := by decide +kernel
noncomputable def F_X2_wantsWithin_9 (G : GG) (v0 : Nat) (v2 : Int32) (self_9 : Int32 → Int32 → AH → Option (Int32 × AH)) (v3 : Int32) (v4 : Int32) (h : AH) : Option (Int32 × AH) :=
if v2 ≤ v4 then (some (v3, h)) else
if (6 : Int32) ≤ v4 then (some (v3, h)) else
ck (m_t h v0 = .inl 2) <|
ob (m_r h v0 3) fun b5 =>
ck (ixb h b5 .int v4 = true) <|
nn (v3 + (m_i h b5 v4.toNatClampNeg)) fun x8 =>
nn (v4 + (1 : Int32)) fun x9 =>
self_9 x8 x9 h
noncomputable def f_X2_wantsWithin (G : GG) (v0 : Nat) (v1 : Int32) (v2 : Int32) (h : AH) : Option (Int32 × AH) :=
nn (if (0 : Int32) < v1 then v1 else (0 : Int32)) fun x1 =>
lq2 (F_X2_wantsWithin_9 G v0 v2 ) bN (0 : Int32) x1 h
set_option maxHeartbeats 4000000 in
set_option maxRecDepth 100000 in
theorem el_X2_wantsWithin_9 {G : GG} {p : Program} {l : Launch} {e : Env} {s : State} {m : MethodId} {args : Array Value} {below : List Frame} {meth : Method} {c : Code} {y : Int32 × AH} (C : Cx G cX2_wantsWithin RX2 p s m args meth c) (hm : c.maxLocals = 5) (hr : meth.sig.returnType = (some .int)) (hin : meth.name = yX2_wantsWithin.name) {v0 : Nat} {v2 : Int32}  :
    ∀ (n : Nat) (v3 : Int32) (v4 : Int32) (h : AH), lq2 (F_X2_wantsWithin_9 G v0 v2) n v3 v4 h = some y → EE G p l e ({ frames := 1, cells := 0, slots := 0, locals := 24 } : Room) s m args below meth c (some (.int y.1), y.2) 0 0 9 [(0, .ref v0), (2, .int v2), (3, .int v3), (4, .int v4)] [] h 0 0 := by
  intro n
  induction n with
  | zero => intro v3 v4 h hf; exact (no_e hf).elim
  | succ n ih_9 =>
    intro v3 v4 h hf
    have hf : F_X2_wantsWithin_9 G v0 v2 (lq2 (F_X2_wantsWithin_9 G v0 v2) n) v3 v4 h = some y := hf
    generalize lq2 (F_X2_wantsWithin_9 G v0 v2) n = self_9 at hf ih_9
    unfold F_X2_wantsWithin_9 at hf
    refine e_iload (pc := 9) C dX2_wantsWithin_9 3 rfl ?_
    refine e_iload_n (pc := 11) C dX2_wantsWithin_11 1 rfl rfl ?_
    rcases it_e hf with ⟨c2, hf⟩ | ⟨c2, hf⟩
    · refine e_icmp_ge (pc := 12) (tgt := 38) C dX2_wantsWithin_12 (by decide) (fun _ => ?_) (fun q => absurd c2 q)
      refine e_iload_n (pc := 38) C dX2_wantsWithin_38 2 rfl rfl ?_
      obtain rfl := so_e hf
      exact e_iret (pc := 39) C hr dX2_wantsWithin_39 (Nat.le_of_ble_eq_true rfl) (Nat.le_of_ble_eq_true rfl)
    · refine e_icmp_ge (pc := 12) (tgt := 38) C dX2_wantsWithin_12 (by decide) (fun q => absurd q c2) (fun _ => ?_)
      refine e_iload (pc := 15) C dX2_wantsWithin_15 3 rfl ?_
      refine e_bipush (v := (6 : Int32)) (pc := 17) C dX2_wantsWithin_17 (by decide) ?_
      rcases it_e hf with ⟨c3, hf⟩ | ⟨c3, hf⟩
      · refine e_icmp_ge (pc := 19) (tgt := 38) C dX2_wantsWithin_19 (by decide) (fun _ => ?_) (fun q => absurd c3 q)
        refine e_iload_n (pc := 38) C dX2_wantsWithin_38 2 rfl rfl ?_
        obtain rfl := so_e hf
        exact e_iret (pc := 39) C hr dX2_wantsWithin_39 (Nat.le_of_ble_eq_true rfl) (Nat.le_of_ble_eq_true rfl)
      · refine e_icmp_ge (pc := 19) (tgt := 38) C dX2_wantsWithin_19 (by decide) (fun q => absurd q c3) (fun _ => ?_)
        refine e_iload_n (pc := 22) C dX2_wantsWithin_22 2 rfl rfl ?_
        refine e_aload_n (pc := 23) C dX2_wantsWithin_23 0 rfl rfl ?_
        obtain ⟨t4, hf⟩ := ck_e hf
        refine e_getr (pc := 24) 2 3 C dX2_wantsWithin_24 (by decide) (by decide) g875 rfl t4 ?_
        obtain ⟨b5, eb5, hf⟩ := ob_e hf
        refine e_rf eb5 ?_
        refine e_iload (pc := 27) C dX2_wantsWithin_27 3 rfl ?_
        obtain ⟨q6, hf⟩ := ck_e hf
        obtain ⟨n7, tn7, in7⟩ := ix_e q6
        refine e_iald (pc := 29) C dX2_wantsWithin_29 tn7 in7 ?_
        refine e_iadd (pc := 30) C dX2_wantsWithin_30 ?_
        obtain ⟨x8, ex8, hf⟩ := nn_e hf
        refine e_topi ex8 ?_
        refine e_istore_n (pc := 31) (lv2 := [(3, .int x8), (0, .ref v0), (2, .int v2), (4, .int v4)]) C hm dX2_wantsWithin_31 rfl (by decide) rfl ?_
        obtain ⟨x9, ex9, hf⟩ := nn_e hf
        refine e_iinc (pc := 32) (v := x9) (lv2 := [(4, .int x9), (3, .int x8), (0, .ref v0), (2, .int v2)]) C hm dX2_wantsWithin_32 3 rfl (by rw [ex9]; rfl) (by decide) rfl ?_
        refine e_goto (pc := 35) (tgt := 9) C dX2_wantsWithin_35 (by decide) ?_
        refine e_lv (lv2 := [(0, .ref v0), (2, .int v2), (3, .int x8), (4, .int x9)]) [2, 3, 1, 0] rfl ?_
        exact ih_9 x8 x9 h hf
set_option maxHeartbeats 4000000 in
set_option maxRecDepth 100000 in
theorem ct_X2_wantsWithin {G : GG} {l : Launch} {v0 : Nat} {v1 : Int32} {v2 : Int32} {h : AH} {y : Int32 × AH} (hf : f_X2_wantsWithin G v0 v1 v2 h = some y) : Ct G l yX2_wantsWithin cX2_wantsWithin 5 (some .int) 1 24 0 0 [.ref v0, .int v1, .int v2] h (some (.int y.1), y.2) := by
  refine ct_of (by decide) (Nat.le_of_ble_eq_true rfl) ?_
  intro p e s m args below meth c C hm hr hin
  have C : Cx G cX2_wantsWithin RX2 p s m args meth c := C
  refine e_lv (lv2 := [(0, .ref v0), (1, .int v1), (2, .int v2)]) [0, 1, 2] rfl ?_
  unfold f_X2_wantsWithin at hf
  refine e_iconst (v := (0 : Int32)) (pc := 0) C dX2_wantsWithin_0 (by decide) ?_
  refine e_istore_n (pc := 1) (lv2 := [(3, .int (0 : Int32)), (0, .ref v0), (1, .int v1), (2, .int v2)]) C hm dX2_wantsWithin_1 rfl (by decide) rfl ?_
  refine e_iconst (v := (0 : Int32)) (pc := 2) C dX2_wantsWithin_2 (by decide) ?_
  refine e_iload_n (pc := 3) C dX2_wantsWithin_3 2 rfl rfl ?_
  refine e_mmax (pc := 4) C dX2_wantsWithin_4 g1010 g1011 g164 g1012 (Nat.le_of_ble_eq_true rfl) (Nat.le_of_ble_eq_true rfl) (Nat.le_of_ble_eq_true rfl) (Nat.le_of_ble_eq_true rfl) ?_
  obtain ⟨x1, ex1, hf⟩ := nn_e hf
  refine e_topi ex1 ?_
  refine e_istore (pc := 7) (lv2 := [(4, .int x1), (3, .int (0 : Int32)), (0, .ref v0), (1, .int v1), (2, .int v2)]) C hm dX2_wantsWithin_7 (by decide) rfl ?_
  refine e_lv (lv2 := [(0, .ref v0), (2, .int v2), (3, .int (0 : Int32)), (4, .int x1)]) [2, 4, 1, 0] rfl ?_
  exact el_X2_wantsWithin_9 C hm hr hin bN (0 : Int32) x1 h hf
theorem dX11_knobAgo_0 : decode cX11_knobAgo 0 = .ok (.iload_n 0, 1) := by decide +kernel
theorem dX11_knobAgo_1 : decode cX11_knobAgo 1 = .ok (.iconst 2, 1) := by decide +kernel
theorem dX11_knobAgo_2 : decode cX11_knobAgo 2 = .ok (.iload_n 1, 1) := by decide +kernel
theorem dX11_knobAgo_3 : decode cX11_knobAgo 3 = .ok (.imul, 1) := by decide +kernel
theorem dX11_knobAgo_4 : decode cX11_knobAgo 4 = .ok (.ishr, 1) := by decide +kernel
theorem dX11_knobAgo_5 : decode cX11_knobAgo 5 = .ok (.iconst 3, 1) := by decide +kernel
theorem dX11_knobAgo_6 : decode cX11_knobAgo 6 = .ok (.iand, 1) := by decide +kernel
theorem dX11_knobAgo_7 : decode cX11_knobAgo 7 = .ok (.ireturn, 1) := by decide +kernel
noncomputable def f_X11_knobAgo (G : GG) (v0 : Int32) (v1 : Int32) (h : AH) : Option (Int32 × AH) :=
some ((v0 >>> (((2 : Int32) * v1) &&& 31)) &&& (3 : Int32), h)
set_option maxHeartbeats 4000000 in
set_option maxRecDepth 100000 in
theorem ct_X11_knobAgo {G : GG} {l : Launch} {v0 : Int32} {v1 : Int32} {h : AH} {y : Int32 × AH} (hf : f_X11_knobAgo G v0 v1 h = some y) : Ct G l yX11_knobAgo cX11_knobAgo 2 (some .int) 0 0 0 0 [.int v0, .int v1] h (some (.int y.1), y.2) := by
  refine ct_of (by decide) (Nat.le_of_ble_eq_true rfl) ?_
  intro p e s m args below meth c C hm hr hin
  have C : Cx G cX11_knobAgo RX11 p s m args meth c := C
  refine e_lv (lv2 := [(0, .int v0), (1, .int v1)]) [0, 1] rfl ?_
  unfold f_X11_knobAgo at hf
  refine e_iload_n (pc := 0) C dX11_knobAgo_0 0 rfl rfl ?_
  refine e_iconst (v := (2 : Int32)) (pc := 1) C dX11_knobAgo_1 (by decide) ?_
  refine e_iload_n (pc := 2) C dX11_knobAgo_2 1 rfl rfl ?_
  refine e_imul (pc := 3) C dX11_knobAgo_3 ?_
  refine e_ishr (pc := 4) C dX11_knobAgo_4 ?_
  refine e_iconst (v := (3 : Int32)) (pc := 5) C dX11_knobAgo_5 (by decide) ?_
  refine e_iand (pc := 6) C dX11_knobAgo_6 ?_
  obtain rfl := so_e hf
  exact e_iret (pc := 7) C hr dX11_knobAgo_7 (Nat.le_of_ble_eq_true rfl) (Nat.le_of_ble_eq_true rfl)
theorem dX2_valueOf_0 : decode cX2_valueOf 0 = .ok (.iload_n 1, 1) := by decide +kernel
theorem dX2_valueOf_1 : decode cX2_valueOf 1 = .ok (.tableswitch 166 300 311 #[63, 68, 73, 78, 98, 110, 115, 124, 133, 146, 156, 161], 63) := by decide +kernel
theorem dX2_valueOf_64 : decode cX2_valueOf 64 = .ok (.aload_n 2, 1) := by decide +kernel
theorem dX2_valueOf_65 : decode cX2_valueOf 65 = .ok (.getfield 58, 3) := by decide +kernel
theorem dX2_valueOf_68 : decode cX2_valueOf 68 = .ok (.ireturn, 1) := by decide +kernel
theorem dX2_valueOf_69 : decode cX2_valueOf 69 = .ok (.aload_n 2, 1) := by decide +kernel
theorem dX2_valueOf_70 : decode cX2_valueOf 70 = .ok (.getfield 106, 3) := by decide +kernel
theorem dX2_valueOf_73 : decode cX2_valueOf 73 = .ok (.ireturn, 1) := by decide +kernel
theorem dX2_valueOf_74 : decode cX2_valueOf 74 = .ok (.aload_n 2, 1) := by decide +kernel
theorem dX2_valueOf_75 : decode cX2_valueOf 75 = .ok (.getfield 109, 3) := by decide +kernel
theorem dX2_valueOf_78 : decode cX2_valueOf 78 = .ok (.ireturn, 1) := by decide +kernel
theorem dX2_valueOf_79 : decode cX2_valueOf 79 = .ok (.aload_n 2, 1) := by decide +kernel
theorem dX2_valueOf_80 : decode cX2_valueOf 80 = .ok (.getfield 69, 3) := by decide +kernel
theorem dX2_valueOf_83 : decode cX2_valueOf 83 = .ok (.aload_n 2, 1) := by decide +kernel
theorem dX2_valueOf_84 : decode cX2_valueOf 84 = .ok (.getfield 109, 3) := by decide +kernel
theorem dX2_valueOf_87 : decode cX2_valueOf 87 = .ok (.invokevirtual 112, 3) := by decide +kernel
theorem dX2_valueOf_90 : decode cX2_valueOf 90 = .ok (.ifCond .eq 7, 3) := by decide +kernel
theorem dX2_valueOf_93 : decode cX2_valueOf 93 = .ok (.iconst 1, 1) := by decide +kernel
theorem dX2_valueOf_94 : decode cX2_valueOf 94 = .ok (.goto 4, 3) := by decide +kernel
theorem dX2_valueOf_97 : decode cX2_valueOf 97 = .ok (.iconst 0, 1) := by decide +kernel
theorem dX2_valueOf_98 : decode cX2_valueOf 98 = .ok (.ireturn, 1) := by decide +kernel
theorem dX2_valueOf_99 : decode cX2_valueOf 99 = .ok (.aload_n 2, 1) := by decide +kernel
theorem dX2_valueOf_100 : decode cX2_valueOf 100 = .ok (.getfield 69, 3) := by decide +kernel
theorem dX2_valueOf_103 : decode cX2_valueOf 103 = .ok (.aload_n 2, 1) := by decide +kernel
theorem dX2_valueOf_104 : decode cX2_valueOf 104 = .ok (.getfield 109, 3) := by decide +kernel
theorem dX2_valueOf_107 : decode cX2_valueOf 107 = .ok (.invokevirtual 115, 3) := by decide +kernel
theorem dX2_valueOf_110 : decode cX2_valueOf 110 = .ok (.ireturn, 1) := by decide +kernel
theorem dX2_valueOf_111 : decode cX2_valueOf 111 = .ok (.aload_n 0, 1) := by decide +kernel
theorem dX2_valueOf_112 : decode cX2_valueOf 112 = .ok (.getfield 26, 3) := by decide +kernel
theorem dX2_valueOf_115 : decode cX2_valueOf 115 = .ok (.ireturn, 1) := by decide +kernel
theorem dX2_valueOf_116 : decode cX2_valueOf 116 = .ok (.aload_n 0, 1) := by decide +kernel
theorem dX2_valueOf_117 : decode cX2_valueOf 117 = .ok (.aload_n 2, 1) := by decide +kernel
theorem dX2_valueOf_118 : decode cX2_valueOf 118 = .ok (.getfield 58, 3) := by decide +kernel
theorem dX2_valueOf_121 : decode cX2_valueOf 121 = .ok (.invokevirtual 118, 3) := by decide +kernel
theorem dX2_valueOf_124 : decode cX2_valueOf 124 = .ok (.ireturn, 1) := by decide +kernel
theorem dX2_valueOf_125 : decode cX2_valueOf 125 = .ok (.aload_n 0, 1) := by decide +kernel
theorem dX2_valueOf_126 : decode cX2_valueOf 126 = .ok (.aload_n 2, 1) := by decide +kernel
theorem dX2_valueOf_127 : decode cX2_valueOf 127 = .ok (.getfield 58, 3) := by decide +kernel
theorem dX2_valueOf_130 : decode cX2_valueOf 130 = .ok (.invokevirtual 121, 3) := by decide +kernel
theorem dX2_valueOf_133 : decode cX2_valueOf 133 = .ok (.ireturn, 1) := by decide +kernel
theorem dX2_valueOf_134 : decode cX2_valueOf 134 = .ok (.aload_n 0, 1) := by decide +kernel
theorem dX2_valueOf_135 : decode cX2_valueOf 135 = .ok (.aload_n 2, 1) := by decide +kernel
theorem dX2_valueOf_136 : decode cX2_valueOf 136 = .ok (.getfield 58, 3) := by decide +kernel
theorem dX2_valueOf_139 : decode cX2_valueOf 139 = .ok (.iconst 1, 1) := by decide +kernel
theorem dX2_valueOf_140 : decode cX2_valueOf 140 = .ok (.iadd, 1) := by decide +kernel
theorem dX2_valueOf_141 : decode cX2_valueOf 141 = .ok (.bipush 6, 2) := by decide +kernel
theorem dX2_valueOf_143 : decode cX2_valueOf 143 = .ok (.invokevirtual 124, 3) := by decide +kernel
theorem dX2_valueOf_146 : decode cX2_valueOf 146 = .ok (.ireturn, 1) := by decide +kernel
theorem dX2_valueOf_147 : decode cX2_valueOf 147 = .ok (.aload_n 0, 1) := by decide +kernel
theorem dX2_valueOf_148 : decode cX2_valueOf 148 = .ok (.iconst 0, 1) := by decide +kernel
theorem dX2_valueOf_149 : decode cX2_valueOf 149 = .ok (.aload_n 2, 1) := by decide +kernel
theorem dX2_valueOf_150 : decode cX2_valueOf 150 = .ok (.getfield 58, 3) := by decide +kernel
theorem dX2_valueOf_153 : decode cX2_valueOf 153 = .ok (.invokevirtual 124, 3) := by decide +kernel
theorem dX2_valueOf_156 : decode cX2_valueOf 156 = .ok (.ireturn, 1) := by decide +kernel
theorem dX2_valueOf_157 : decode cX2_valueOf 157 = .ok (.aload_n 0, 1) := by decide +kernel
theorem dX2_valueOf_158 : decode cX2_valueOf 158 = .ok (.getfield 23, 3) := by decide +kernel
theorem dX2_valueOf_161 : decode cX2_valueOf 161 = .ok (.ireturn, 1) := by decide +kernel
theorem dX2_valueOf_162 : decode cX2_valueOf 162 = .ok (.aload_n 0, 1) := by decide +kernel
theorem dX2_valueOf_163 : decode cX2_valueOf 163 = .ok (.getfield 29, 3) := by decide +kernel
theorem dX2_valueOf_166 : decode cX2_valueOf 166 = .ok (.ireturn, 1) := by decide +kernel
theorem dX2_valueOf_167 : decode cX2_valueOf 167 = .ok (.aload_n 2, 1) := by decide +kernel
theorem dX2_valueOf_168 : decode cX2_valueOf 168 = .ok (.getfield 127, 3) := by decide +kernel
theorem dX2_valueOf_171 : decode cX2_valueOf 171 = .ok (.iconst 0, 1) := by decide +kernel
theorem dX2_valueOf_172 : decode cX2_valueOf 172 = .ok (.invokestatic 130, 3) := by decide +kernel
theorem dX2_valueOf_175 : decode cX2_valueOf 175 = .ok (.ireturn, 1) := by decide +kernel
noncomputable def f_X2_valueOf (G : GG) (v0 : Nat) (v1 : Int32) (v2 : Nat) (h : AH) : Option (Int32 × AH) :=
if v1 = (300 : Int32) then (ck (m_t h v2 = .inl 0) <|
some (m_i h v2 2, h)) else
if v1 = (301 : Int32) then (ck (m_t h v2 = .inl 0) <|
some (m_i h v2 3, h)) else
if v1 = (302 : Int32) then (ck (m_t h v2 = .inl 0) <|
some (m_i h v2 4, h)) else
if v1 = (303 : Int32) then (ck (m_t h v2 = .inl 0) <|
ob (m_r h v2 0) fun b9 =>
ck (m_t h b9 = .inl 9) <|
cb (f_X9_isTunnel G b9 (m_i h v2 4) h) fun r13 h11 =>
if r13 = 0 then (some ((0 : Int32), h11)) else
some ((1 : Int32), h11)) else
if v1 = (304 : Int32) then (ck (m_t h v2 = .inl 0) <|
ob (m_r h v2 0) fun b17 =>
ck (m_t h b17 = .inl 9) <|
cb (f_X9_milesToTunnel G b17 (m_i h v2 4) h) fun r21 h19 =>
some (r21, h19)) else
if v1 = (305 : Int32) then (ck (m_t h v0 = .inl 2) <|
some (m_i h v0 5, h)) else
if v1 = (306 : Int32) then (ck (m_t h v2 = .inl 0) <|
ck (m_t h v0 = .inl 2) <|
cb (f_X2_middleWant G v0 (m_i h v2 2) h) fun r29 h27 =>
some (r29, h27)) else
if v1 = (307 : Int32) then (ck (m_t h v2 = .inl 0) <|
ck (m_t h v0 = .inl 2) <|
cb (f_X2_commonestWant G v0 (m_i h v2 2) h) fun r35 h33 =>
some (r35, h33)) else
if v1 = (308 : Int32) then (ck (m_t h v2 = .inl 0) <|
ck (m_t h v0 = .inl 2) <|
cb (f_X2_wantsWithin G v0 ((m_i h v2 2) + (1 : Int32)) (6 : Int32) h) fun r41 h39 =>
some (r41, h39)) else
if v1 = (309 : Int32) then (ck (m_t h v2 = .inl 0) <|
ck (m_t h v0 = .inl 2) <|
cb (f_X2_wantsWithin G v0 (0 : Int32) (m_i h v2 2) h) fun r47 h45 =>
some (r47, h45)) else
if v1 = (310 : Int32) then (ck (m_t h v0 = .inl 2) <|
some (m_i h v0 4, h)) else
if v1 = (311 : Int32) then (ck (m_t h v0 = .inl 2) <|
some (m_i h v0 6, h)) else
ck (m_t h v2 = .inl 0) <|
cb (f_X11_knobAgo G (m_i h v2 5) (0 : Int32) h) fun r55 h53 =>
some (r55, h53)
set_option maxHeartbeats 4000000 in
set_option maxRecDepth 100000 in
theorem ct_X2_valueOf {G : GG} {l : Launch} {v0 : Nat} {v1 : Int32} {v2 : Nat} {h : AH} {y : Int32 × AH} (hf : f_X2_valueOf G v0 v1 v2 h = some y) : Ct G l yX2_valueOf cX2_valueOf 3 (some .int) 2 48 0 0 [.ref v0, .int v1, .ref v2] h (some (.int y.1), y.2) := by
  refine ct_of (by decide) (Nat.le_of_ble_eq_true rfl) ?_
  intro p e s m args below meth c C hm hr hin
  have C : Cx G cX2_valueOf RX2 p s m args meth c := C
  refine e_lv (lv2 := [(0, .ref v0), (1, .int v1), (2, .ref v2)]) [0, 1, 2] rfl ?_
  unfold f_X2_valueOf at hf
  refine e_iload_n (pc := 0) C dX2_valueOf_0 1 rfl rfl ?_
  rcases it_e hf with ⟨c1, hf⟩ | ⟨c1, hf⟩
  · refine e_tabK (pc := 1) (tgt := 64) (300 : Int32) c1 C dX2_valueOf_1 (by decide) (by decide) rfl (by decide) ?_
    refine e_aload_n (pc := 64) C dX2_valueOf_64 2 rfl rfl ?_
    obtain ⟨t2, hf⟩ := ck_e hf
    refine e_getiN (pc := 65) 0 2 C dX2_valueOf_65 (by decide) (by decide) g405 rfl t2 ?_
    obtain rfl := so_e hf
    exact e_iret (pc := 68) C hr dX2_valueOf_68 (Nat.le_of_ble_eq_true rfl) (Nat.le_of_ble_eq_true rfl)
  rcases it_e hf with ⟨c3, hf⟩ | ⟨c3, hf⟩
  · refine e_tabK (pc := 1) (tgt := 69) (301 : Int32) c3 C dX2_valueOf_1 (by decide) (by decide) rfl (by decide) ?_
    refine e_aload_n (pc := 69) C dX2_valueOf_69 2 rfl rfl ?_
    obtain ⟨t4, hf⟩ := ck_e hf
    refine e_getiN (pc := 70) 0 3 C dX2_valueOf_70 (by decide) (by decide) g410 rfl t4 ?_
    obtain rfl := so_e hf
    exact e_iret (pc := 73) C hr dX2_valueOf_73 (Nat.le_of_ble_eq_true rfl) (Nat.le_of_ble_eq_true rfl)
  rcases it_e hf with ⟨c5, hf⟩ | ⟨c5, hf⟩
  · refine e_tabK (pc := 1) (tgt := 74) (302 : Int32) c5 C dX2_valueOf_1 (by decide) (by decide) rfl (by decide) ?_
    refine e_aload_n (pc := 74) C dX2_valueOf_74 2 rfl rfl ?_
    obtain ⟨t6, hf⟩ := ck_e hf
    refine e_getiN (pc := 75) 0 4 C dX2_valueOf_75 (by decide) (by decide) g414 rfl t6 ?_
    obtain rfl := so_e hf
    exact e_iret (pc := 78) C hr dX2_valueOf_78 (Nat.le_of_ble_eq_true rfl) (Nat.le_of_ble_eq_true rfl)
  rcases it_e hf with ⟨c7, hf⟩ | ⟨c7, hf⟩
  · refine e_tabK (pc := 1) (tgt := 79) (303 : Int32) c7 C dX2_valueOf_1 (by decide) (by decide) rfl (by decide) ?_
    refine e_aload_n (pc := 79) C dX2_valueOf_79 2 rfl rfl ?_
    obtain ⟨t8, hf⟩ := ck_e hf
    refine e_getrN (pc := 80) 0 0 C dX2_valueOf_80 (by decide) (by decide) g398 rfl t8 ?_
    obtain ⟨b9, eb9, hf⟩ := ob_e hf
    refine e_rf eb9 ?_
    refine e_aload_n (pc := 83) C dX2_valueOf_83 2 rfl rfl ?_
    refine e_getiN (pc := 84) 0 4 C dX2_valueOf_84 (by decide) (by decide) g414 rfl t8 ?_
    obtain ⟨t10, hf⟩ := ck_e hf
    obtain ⟨r13, h11, y12, hf⟩ := cb_e hf
    refine e_callVi (pc := 87) (st := []) 9 C (ct_X9_isTunnel y12) dX2_valueOf_87 (by decide) t10 g1021 g938 g939 g152 g940 hd_X9_isTunnel rfl ⟨Nat.le_of_ble_eq_true rfl, Nat.le_of_ble_eq_true rfl⟩ ⟨Nat.le_of_ble_eq_true rfl, Nat.le_of_ble_eq_true rfl⟩ rfl (Nat.le_of_ble_eq_true rfl) ?_
    rcases it_e hf with ⟨c14, hf⟩ | ⟨c14, hf⟩
    · refine e_if_eq (pc := 90) (tgt := 97) C dX2_valueOf_90 (by decide) (fun _ => ?_) (fun q => absurd c14 q)
      refine e_iconst (v := (0 : Int32)) (pc := 97) C dX2_valueOf_97 (by decide) ?_
      obtain rfl := so_e hf
      exact e_iret (pc := 98) C hr dX2_valueOf_98 (Nat.le_of_ble_eq_true rfl) (Nat.le_of_ble_eq_true rfl)
    · refine e_if_eq (pc := 90) (tgt := 97) C dX2_valueOf_90 (by decide) (fun q => absurd q c14) (fun _ => ?_)
      refine e_iconst (v := (1 : Int32)) (pc := 93) C dX2_valueOf_93 (by decide) ?_
      refine e_goto (pc := 94) (tgt := 98) C dX2_valueOf_94 (by decide) ?_
      obtain rfl := so_e hf
      exact e_iret (pc := 98) C hr dX2_valueOf_98 (Nat.le_of_ble_eq_true rfl) (Nat.le_of_ble_eq_true rfl)
  rcases it_e hf with ⟨c15, hf⟩ | ⟨c15, hf⟩
  · refine e_tabK (pc := 1) (tgt := 99) (304 : Int32) c15 C dX2_valueOf_1 (by decide) (by decide) rfl (by decide) ?_
    refine e_aload_n (pc := 99) C dX2_valueOf_99 2 rfl rfl ?_
    obtain ⟨t16, hf⟩ := ck_e hf
    refine e_getrN (pc := 100) 0 0 C dX2_valueOf_100 (by decide) (by decide) g398 rfl t16 ?_
    obtain ⟨b17, eb17, hf⟩ := ob_e hf
    refine e_rf eb17 ?_
    refine e_aload_n (pc := 103) C dX2_valueOf_103 2 rfl rfl ?_
    refine e_getiN (pc := 104) 0 4 C dX2_valueOf_104 (by decide) (by decide) g414 rfl t16 ?_
    obtain ⟨t18, hf⟩ := ck_e hf
    obtain ⟨r21, h19, y20, hf⟩ := cb_e hf
    refine e_callVi (pc := 107) (st := []) 9 C (ct_X9_milesToTunnel y20) dX2_valueOf_107 (by decide) t18 g1022 g1023 g1024 g152 g1025 hd_X9_milesToTunnel rfl ⟨Nat.le_of_ble_eq_true rfl, Nat.le_of_ble_eq_true rfl⟩ ⟨Nat.le_of_ble_eq_true rfl, Nat.le_of_ble_eq_true rfl⟩ rfl (Nat.le_of_ble_eq_true rfl) ?_
    obtain rfl := so_e hf
    exact e_iret (pc := 110) C hr dX2_valueOf_110 (Nat.le_of_ble_eq_true rfl) (Nat.le_of_ble_eq_true rfl)
  rcases it_e hf with ⟨c22, hf⟩ | ⟨c22, hf⟩
  · refine e_tabK (pc := 1) (tgt := 111) (305 : Int32) c22 C dX2_valueOf_1 (by decide) (by decide) rfl (by decide) ?_
    refine e_aload_n (pc := 111) C dX2_valueOf_111 0 rfl rfl ?_
    obtain ⟨t23, hf⟩ := ck_e hf
    refine e_geti (pc := 112) 2 5 C dX2_valueOf_112 (by decide) (by decide) g877 rfl t23 ?_
    obtain rfl := so_e hf
    exact e_iret (pc := 115) C hr dX2_valueOf_115 (Nat.le_of_ble_eq_true rfl) (Nat.le_of_ble_eq_true rfl)
  rcases it_e hf with ⟨c24, hf⟩ | ⟨c24, hf⟩
  · refine e_tabK (pc := 1) (tgt := 116) (306 : Int32) c24 C dX2_valueOf_1 (by decide) (by decide) rfl (by decide) ?_
    refine e_aload_n (pc := 116) C dX2_valueOf_116 0 rfl rfl ?_
    refine e_aload_n (pc := 117) C dX2_valueOf_117 2 rfl rfl ?_
    obtain ⟨t25, hf⟩ := ck_e hf
    refine e_getiN (pc := 118) 0 2 C dX2_valueOf_118 (by decide) (by decide) g405 rfl t25 ?_
    obtain ⟨t26, hf⟩ := ck_e hf
    obtain ⟨r29, h27, y28, hf⟩ := cb_e hf
    refine e_callVi (pc := 121) (st := []) 2 C (ct_X2_middleWant y28) dX2_valueOf_121 (by decide) t26 g1027 g1029 g30 g163 g1030 hd_X2_middleWant rfl ⟨Nat.le_of_ble_eq_true rfl, Nat.le_of_ble_eq_true rfl⟩ ⟨Nat.le_of_ble_eq_true rfl, Nat.le_of_ble_eq_true rfl⟩ rfl (Nat.le_of_ble_eq_true rfl) ?_
    obtain rfl := so_e hf
    exact e_iret (pc := 124) C hr dX2_valueOf_124 (Nat.le_of_ble_eq_true rfl) (Nat.le_of_ble_eq_true rfl)
  rcases it_e hf with ⟨c30, hf⟩ | ⟨c30, hf⟩
  · refine e_tabK (pc := 1) (tgt := 125) (307 : Int32) c30 C dX2_valueOf_1 (by decide) (by decide) rfl (by decide) ?_
    refine e_aload_n (pc := 125) C dX2_valueOf_125 0 rfl rfl ?_
    refine e_aload_n (pc := 126) C dX2_valueOf_126 2 rfl rfl ?_
    obtain ⟨t31, hf⟩ := ck_e hf
    refine e_getiN (pc := 127) 0 2 C dX2_valueOf_127 (by decide) (by decide) g405 rfl t31 ?_
    obtain ⟨t32, hf⟩ := ck_e hf
    obtain ⟨r35, h33, y34, hf⟩ := cb_e hf
    refine e_callVi (pc := 130) (st := []) 2 C (ct_X2_commonestWant y34) dX2_valueOf_130 (by decide) t32 g1031 g1033 g31 g163 g1034 hd_X2_commonestWant rfl ⟨Nat.le_of_ble_eq_true rfl, Nat.le_of_ble_eq_true rfl⟩ ⟨Nat.le_of_ble_eq_true rfl, Nat.le_of_ble_eq_true rfl⟩ rfl (Nat.le_of_ble_eq_true rfl) ?_
    obtain rfl := so_e hf
    exact e_iret (pc := 133) C hr dX2_valueOf_133 (Nat.le_of_ble_eq_true rfl) (Nat.le_of_ble_eq_true rfl)
  rcases it_e hf with ⟨c36, hf⟩ | ⟨c36, hf⟩
  · refine e_tabK (pc := 1) (tgt := 134) (308 : Int32) c36 C dX2_valueOf_1 (by decide) (by decide) rfl (by decide) ?_
    refine e_aload_n (pc := 134) C dX2_valueOf_134 0 rfl rfl ?_
    refine e_aload_n (pc := 135) C dX2_valueOf_135 2 rfl rfl ?_
    obtain ⟨t37, hf⟩ := ck_e hf
    refine e_getiN (pc := 136) 0 2 C dX2_valueOf_136 (by decide) (by decide) g405 rfl t37 ?_
    refine e_iconst (v := (1 : Int32)) (pc := 139) C dX2_valueOf_139 (by decide) ?_
    refine e_iadd (pc := 140) C dX2_valueOf_140 ?_
    refine e_bipush (v := (6 : Int32)) (pc := 141) C dX2_valueOf_141 (by decide) ?_
    obtain ⟨t38, hf⟩ := ck_e hf
    obtain ⟨r41, h39, y40, hf⟩ := cb_e hf
    refine e_callVi (pc := 143) (st := []) 2 C (ct_X2_wantsWithin y40) dX2_valueOf_143 (by decide) t38 g1035 g1037 g32 g163 g1038 hd_X2_wantsWithin rfl ⟨Nat.le_of_ble_eq_true rfl, Nat.le_of_ble_eq_true rfl⟩ ⟨Nat.le_of_ble_eq_true rfl, Nat.le_of_ble_eq_true rfl⟩ rfl (Nat.le_of_ble_eq_true rfl) ?_
    obtain rfl := so_e hf
    exact e_iret (pc := 146) C hr dX2_valueOf_146 (Nat.le_of_ble_eq_true rfl) (Nat.le_of_ble_eq_true rfl)
  rcases it_e hf with ⟨c42, hf⟩ | ⟨c42, hf⟩
  · refine e_tabK (pc := 1) (tgt := 147) (309 : Int32) c42 C dX2_valueOf_1 (by decide) (by decide) rfl (by decide) ?_
    refine e_aload_n (pc := 147) C dX2_valueOf_147 0 rfl rfl ?_
    refine e_iconst (v := (0 : Int32)) (pc := 148) C dX2_valueOf_148 (by decide) ?_
    refine e_aload_n (pc := 149) C dX2_valueOf_149 2 rfl rfl ?_
    obtain ⟨t43, hf⟩ := ck_e hf
    refine e_getiN (pc := 150) 0 2 C dX2_valueOf_150 (by decide) (by decide) g405 rfl t43 ?_
    obtain ⟨t44, hf⟩ := ck_e hf
    obtain ⟨r47, h45, y46, hf⟩ := cb_e hf
    refine e_callVi (pc := 153) (st := []) 2 C (ct_X2_wantsWithin y46) dX2_valueOf_153 (by decide) t44 g1035 g1037 g32 g163 g1038 hd_X2_wantsWithin rfl ⟨Nat.le_of_ble_eq_true rfl, Nat.le_of_ble_eq_true rfl⟩ ⟨Nat.le_of_ble_eq_true rfl, Nat.le_of_ble_eq_true rfl⟩ rfl (Nat.le_of_ble_eq_true rfl) ?_
    obtain rfl := so_e hf
    exact e_iret (pc := 156) C hr dX2_valueOf_156 (Nat.le_of_ble_eq_true rfl) (Nat.le_of_ble_eq_true rfl)
  rcases it_e hf with ⟨c48, hf⟩ | ⟨c48, hf⟩
  · refine e_tabK (pc := 1) (tgt := 157) (310 : Int32) c48 C dX2_valueOf_1 (by decide) (by decide) rfl (by decide) ?_
    refine e_aload_n (pc := 157) C dX2_valueOf_157 0 rfl rfl ?_
    obtain ⟨t49, hf⟩ := ck_e hf
    refine e_geti (pc := 158) 2 4 C dX2_valueOf_158 (by decide) (by decide) g876 rfl t49 ?_
    obtain rfl := so_e hf
    exact e_iret (pc := 161) C hr dX2_valueOf_161 (Nat.le_of_ble_eq_true rfl) (Nat.le_of_ble_eq_true rfl)
  rcases it_e hf with ⟨c50, hf⟩ | ⟨c50, hf⟩
  · refine e_tabK (pc := 1) (tgt := 162) (311 : Int32) c50 C dX2_valueOf_1 (by decide) (by decide) rfl (by decide) ?_
    refine e_aload_n (pc := 162) C dX2_valueOf_162 0 rfl rfl ?_
    obtain ⟨t51, hf⟩ := ck_e hf
    refine e_geti (pc := 163) 2 6 C dX2_valueOf_163 (by decide) (by decide) g878 rfl t51 ?_
    obtain rfl := so_e hf
    exact e_iret (pc := 166) C hr dX2_valueOf_166 (Nat.le_of_ble_eq_true rfl) (Nat.le_of_ble_eq_true rfl)
  refine e_tabOut (pc := 1) (tgt := 167) C dX2_valueOf_1 (by have g0 := i_ne 300 (by decide) c1; have g1 := i_ne 301 (by decide) c3; have g2 := i_ne 302 (by decide) c5; have g3 := i_ne 303 (by decide) c7; have g4 := i_ne 304 (by decide) c15; have g5 := i_ne 305 (by decide) c22; have g6 := i_ne 306 (by decide) c24; have g7 := i_ne 307 (by decide) c30; have g8 := i_ne 308 (by decide) c36; have g9 := i_ne 309 (by decide) c42; have g10 := i_ne 310 (by decide) c48; have g11 := i_ne 311 (by decide) c50; omega) (by decide) ?_
  refine e_aload_n (pc := 167) C dX2_valueOf_167 2 rfl rfl ?_
  obtain ⟨t52, hf⟩ := ck_e hf
  refine e_getiN (pc := 168) 0 5 C dX2_valueOf_168 (by decide) (by decide) g419 rfl t52 ?_
  refine e_iconst (v := (0 : Int32)) (pc := 171) C dX2_valueOf_171 (by decide) ?_
  obtain ⟨r55, h53, y54, hf⟩ := cb_e hf
  refine e_callSNi (pc := 172) (st := []) C (ct_X11_knobAgo y54) dX2_valueOf_172 g1039 g1040 g146 g1041 hd_X11_knobAgo rfl ⟨Nat.le_of_ble_eq_true rfl, Nat.le_of_ble_eq_true rfl⟩ ⟨Nat.le_of_ble_eq_true rfl, Nat.le_of_ble_eq_true rfl⟩ rfl (Nat.le_of_ble_eq_true rfl) ?_
  obtain rfl := so_e hf
  exact e_iret (pc := 175) C hr dX2_valueOf_175 (Nat.le_of_ble_eq_true rfl) (Nat.le_of_ble_eq_true rfl)
theorem dX2_drop_0 : decode cX2_drop 0 = .ok (.aload_n 0, 1) := by decide +kernel
theorem dX2_drop_1 : decode cX2_drop 1 = .ok (.getfield 15, 3) := by decide +kernel
theorem dX2_drop_4 : decode cX2_drop 4 = .ok (.ifCond .gt 5, 3) := by decide +kernel
theorem dX2_drop_7 : decode cX2_drop 7 = .ok (.lconst 0, 1) := by decide +kernel
theorem dX2_drop_8 : decode cX2_drop 8 = .ok (.lreturn, 1) := by decide +kernel
theorem dX2_drop_9 : decode cX2_drop 9 = .ok (.aload_n 0, 1) := by decide +kernel
theorem dX2_drop_10 : decode cX2_drop 10 = .ok (.dup, 1) := by decide +kernel
theorem dX2_drop_11 : decode cX2_drop 11 = .ok (.getfield 15, 3) := by decide +kernel
theorem dX2_drop_14 : decode cX2_drop 14 = .ok (.iconst 1, 1) := by decide +kernel
theorem dX2_drop_15 : decode cX2_drop 15 = .ok (.isub, 1) := by decide +kernel
theorem dX2_drop_16 : decode cX2_drop 16 = .ok (.putfield 15, 3) := by decide +kernel
theorem dX2_drop_19 : decode cX2_drop 19 = .ok (.aload_n 0, 1) := by decide +kernel
theorem dX2_drop_20 : decode cX2_drop 20 = .ok (.getfield 11, 3) := by decide +kernel
theorem dX2_drop_23 : decode cX2_drop 23 = .ok (.aload_n 0, 1) := by decide +kernel
theorem dX2_drop_24 : decode cX2_drop 24 = .ok (.getfield 15, 3) := by decide +kernel
theorem dX2_drop_27 : decode cX2_drop 27 = .ok (.laload, 1) := by decide +kernel
theorem dX2_drop_28 : decode cX2_drop 28 = .ok (.lreturn, 1) := by decide +kernel
noncomputable def f_X2_drop (G : GG) (v0 : Nat) (h : AH) : Option (Int64 × AH) :=
ck (m_t h v0 = .inl 2) <|
if 0 < (m_i h v0 2) then (nn (m_si h v0 2 ((m_i h v0 2) - (1 : Int32))) fun h3 =>
ob (m_r h3 v0 1) fun b4 =>
ck (ixb h3 b4 .long (m_i h3 v0 2) = true) <|
some (m_l h3 b4 (m_i h3 v0 2).toNatClampNeg, h3)) else
some ((0 : Int64), h)
set_option maxHeartbeats 4000000 in
set_option maxRecDepth 100000 in
theorem ct_X2_drop {G : GG} {l : Launch} {v0 : Nat} {h : AH} {y : Int64 × AH} (hf : f_X2_drop G v0 h = some y) : Ct G l yX2_drop cX2_drop 1 (some .long) 0 0 0 0 [.ref v0] h (some (.long y.1), y.2) := by
  refine ct_of (by decide) (Nat.le_of_ble_eq_true rfl) ?_
  intro p e s m args below meth c C hm hr hin
  have C : Cx G cX2_drop RX2 p s m args meth c := C
  refine e_lv (lv2 := [(0, .ref v0)]) [0] rfl ?_
  unfold f_X2_drop at hf
  refine e_aload_n (pc := 0) C dX2_drop_0 0 rfl rfl ?_
  obtain ⟨t1, hf⟩ := ck_e hf
  refine e_geti (pc := 1) 2 2 C dX2_drop_1 (by decide) (by decide) g874 rfl t1 ?_
  rcases it_e hf with ⟨c2, hf⟩ | ⟨c2, hf⟩
  · refine e_if_gt (pc := 4) (tgt := 9) C dX2_drop_4 (by decide) (fun _ => ?_) (fun q => absurd c2 q)
    refine e_aload_n (pc := 9) C dX2_drop_9 0 rfl rfl ?_
    refine e_dup (pc := 10) C dX2_drop_10 rfl ?_
    refine e_geti (pc := 11) 2 2 C dX2_drop_11 (by decide) (by decide) g874 rfl t1 ?_
    refine e_iconst (v := (1 : Int32)) (pc := 14) C dX2_drop_14 (by decide) ?_
    refine e_isub (pc := 15) C dX2_drop_15 ?_
    refine e_puti (pc := 16) 2 2 C dX2_drop_16 (by decide) (by decide) g874 rfl rfl rfl rfl t1 ?_
    obtain ⟨h3, eh3, hf⟩ := nn_e hf
    refine e_hp eh3 ?_
    have uh3 : m_t h3 = m_t h := by rw [eh3]; exact rfl
    refine e_aload_n (pc := 19) C dX2_drop_19 0 rfl rfl ?_
    refine e_getr (pc := 20) 2 1 C dX2_drop_20 (by decide) (by decide) g873 rfl (e_mt uh3 t1) ?_
    obtain ⟨b4, eb4, hf⟩ := ob_e hf
    refine e_rf eb4 ?_
    refine e_aload_n (pc := 23) C dX2_drop_23 0 rfl rfl ?_
    refine e_geti (pc := 24) 2 2 C dX2_drop_24 (by decide) (by decide) g874 rfl (e_mt uh3 t1) ?_
    obtain ⟨q5, hf⟩ := ck_e hf
    obtain ⟨n6, tn6, in6⟩ := ix_e q5
    refine e_lald (pc := 27) C dX2_drop_27 tn6 in6 ?_
    obtain rfl := so_e hf
    exact e_lret (pc := 28) C hr dX2_drop_28 (Nat.le_of_ble_eq_true rfl) (Nat.le_of_ble_eq_true rfl)
  · refine e_if_gt (pc := 4) (tgt := 9) C dX2_drop_4 (by decide) (fun q => absurd q c2) (fun _ => ?_)
    refine e_lconst (v := (0 : Int64)) (pc := 7) C dX2_drop_7 (by decide) ?_
    obtain rfl := so_e hf
    exact e_lret (pc := 8) C hr dX2_drop_8 (Nat.le_of_ble_eq_true rfl) (Nat.le_of_ble_eq_true rfl)
theorem dX2_heldHole_0 : decode cX2_heldHole 0 = .ok (.lconst 0, 1) := by decide +kernel
theorem dX2_heldHole_1 : decode cX2_heldHole 1 = .ok (.ldc2_w 98, 3) := by decide +kernel
theorem dX2_heldHole_4 : decode cX2_heldHole 4 = .ok (.lload_n 0, 1) := by decide +kernel
theorem dX2_heldHole_5 : decode cX2_heldHole 5 = .ok (.invokestatic 100, 3) := by decide +kernel
theorem dX2_heldHole_8 : decode cX2_heldHole 8 = .ok (.invokestatic 104, 3) := by decide +kernel
theorem dX2_heldHole_11 : decode cX2_heldHole 11 = .ok (.l2i, 1) := by decide +kernel
theorem dX2_heldHole_12 : decode cX2_heldHole 12 = .ok (.ireturn, 1) := by decide +kernel
noncomputable def f_X2_heldHole (G : GG) (v0 : Int64) (h : AH) : Option (Int32 × AH) :=
nn (if v0 < (5 : Int64) then v0 else (5 : Int64)) fun x1 =>
nn (if x1 < (0 : Int64) then (0 : Int64) else x1) fun x2 =>
some (x2.toInt32, h)
set_option maxHeartbeats 4000000 in
set_option maxRecDepth 100000 in
theorem ct_X2_heldHole {G : GG} {l : Launch} {v0 : Int64} {h : AH} {y : Int32 × AH} (hf : f_X2_heldHole G v0 h = some y) : Ct G l yX2_heldHole cX2_heldHole 2 (some .int) 1 24 0 0 [.long v0] h (some (.int y.1), y.2) := by
  refine ct_of (by decide) (Nat.le_of_ble_eq_true rfl) ?_
  intro p e s m args below meth c C hm hr hin
  have C : Cx G cX2_heldHole RX2 p s m args meth c := C
  refine e_lv (lv2 := [(0, .long v0)]) [0] rfl ?_
  unfold f_X2_heldHole at hf
  refine e_lconst (v := (0 : Int64)) (pc := 0) C dX2_heldHole_0 (by decide) ?_
  refine e_ldc2 (pc := 1) C dX2_heldHole_1 g1049 ?_
  refine e_lload_n (pc := 4) C dX2_heldHole_4 0 rfl rfl ?_
  refine e_mminL (pc := 5) C dX2_heldHole_5 g1050 g1051 g164 g1052 (Nat.le_of_ble_eq_true rfl) (Nat.le_of_ble_eq_true rfl) (Nat.le_of_ble_eq_true rfl) (Nat.le_of_ble_eq_true rfl) ?_
  obtain ⟨x1, ex1, hf⟩ := nn_e hf
  refine e_topl ex1 ?_
  refine e_mmaxL (pc := 8) C dX2_heldHole_8 g1053 g1054 g164 g1055 (Nat.le_of_ble_eq_true rfl) (Nat.le_of_ble_eq_true rfl) (Nat.le_of_ble_eq_true rfl) (Nat.le_of_ble_eq_true rfl) ?_
  obtain ⟨x2, ex2, hf⟩ := nn_e hf
  refine e_topl ex2 ?_
  refine e_l2i (pc := 11) C dX2_heldHole_11 ?_
  obtain rfl := so_e hf
  exact e_iret (pc := 12) C hr dX2_heldHole_12 (Nat.le_of_ble_eq_true rfl) (Nat.le_of_ble_eq_true rfl)
theorem dX2_joined_0 : decode cX2_joined 0 = .ok (.iload_n 2, 1) := by decide +kernel
theorem dX2_joined_1 : decode cX2_joined 1 = .ok (.lookupswitch 203 #[(37, 125), (42, 107), (43, 99), (45, 103), (47, 111), (60, 139), (61, 163), (62, 187), (259, 151), (260, 175), (316, 199)], 99) := by decide +kernel
theorem dX2_joined_100 : decode cX2_joined 100 = .ok (.lload_n 0, 1) := by decide +kernel
theorem dX2_joined_101 : decode cX2_joined 101 = .ok (.lload_n 3, 1) := by decide +kernel
theorem dX2_joined_102 : decode cX2_joined 102 = .ok (.ladd, 1) := by decide +kernel
theorem dX2_joined_103 : decode cX2_joined 103 = .ok (.lreturn, 1) := by decide +kernel
theorem dX2_joined_104 : decode cX2_joined 104 = .ok (.lload_n 0, 1) := by decide +kernel
theorem dX2_joined_105 : decode cX2_joined 105 = .ok (.lload_n 3, 1) := by decide +kernel
theorem dX2_joined_106 : decode cX2_joined 106 = .ok (.lsub, 1) := by decide +kernel
theorem dX2_joined_107 : decode cX2_joined 107 = .ok (.lreturn, 1) := by decide +kernel
theorem dX2_joined_108 : decode cX2_joined 108 = .ok (.lload_n 0, 1) := by decide +kernel
theorem dX2_joined_109 : decode cX2_joined 109 = .ok (.lload_n 3, 1) := by decide +kernel
theorem dX2_joined_110 : decode cX2_joined 110 = .ok (.lmul, 1) := by decide +kernel
theorem dX2_joined_111 : decode cX2_joined 111 = .ok (.lreturn, 1) := by decide +kernel
theorem dX2_joined_112 : decode cX2_joined 112 = .ok (.lload_n 3, 1) := by decide +kernel
theorem dX2_joined_113 : decode cX2_joined 113 = .ok (.lconst 0, 1) := by decide +kernel
theorem dX2_joined_114 : decode cX2_joined 114 = .ok (.lcmp, 1) := by decide +kernel
theorem dX2_joined_115 : decode cX2_joined 115 = .ok (.ifCond .ne 7, 3) := by decide +kernel
theorem dX2_joined_118 : decode cX2_joined 118 = .ok (.lconst 0, 1) := by decide +kernel
theorem dX2_joined_119 : decode cX2_joined 119 = .ok (.goto 6, 3) := by decide +kernel
theorem dX2_joined_122 : decode cX2_joined 122 = .ok (.lload_n 0, 1) := by decide +kernel
theorem dX2_joined_123 : decode cX2_joined 123 = .ok (.lload_n 3, 1) := by decide +kernel
theorem dX2_joined_124 : decode cX2_joined 124 = .ok (.ldiv, 1) := by decide +kernel
theorem dX2_joined_125 : decode cX2_joined 125 = .ok (.lreturn, 1) := by decide +kernel
theorem dX2_joined_126 : decode cX2_joined 126 = .ok (.lload_n 3, 1) := by decide +kernel
theorem dX2_joined_127 : decode cX2_joined 127 = .ok (.lconst 0, 1) := by decide +kernel
theorem dX2_joined_128 : decode cX2_joined 128 = .ok (.lcmp, 1) := by decide +kernel
theorem dX2_joined_129 : decode cX2_joined 129 = .ok (.ifCond .ne 7, 3) := by decide +kernel
theorem dX2_joined_132 : decode cX2_joined 132 = .ok (.lconst 0, 1) := by decide +kernel
theorem dX2_joined_133 : decode cX2_joined 133 = .ok (.goto 6, 3) := by decide +kernel
theorem dX2_joined_136 : decode cX2_joined 136 = .ok (.lload_n 0, 1) := by decide +kernel
theorem dX2_joined_137 : decode cX2_joined 137 = .ok (.lload_n 3, 1) := by decide +kernel
theorem dX2_joined_138 : decode cX2_joined 138 = .ok (.lrem, 1) := by decide +kernel
theorem dX2_joined_139 : decode cX2_joined 139 = .ok (.lreturn, 1) := by decide +kernel
theorem dX2_joined_140 : decode cX2_joined 140 = .ok (.lload_n 0, 1) := by decide +kernel
theorem dX2_joined_141 : decode cX2_joined 141 = .ok (.lload_n 3, 1) := by decide +kernel
theorem dX2_joined_142 : decode cX2_joined 142 = .ok (.lcmp, 1) := by decide +kernel
theorem dX2_joined_143 : decode cX2_joined 143 = .ok (.ifCond .ge 7, 3) := by decide +kernel
theorem dX2_joined_146 : decode cX2_joined 146 = .ok (.lconst 1, 1) := by decide +kernel
theorem dX2_joined_147 : decode cX2_joined 147 = .ok (.goto 4, 3) := by decide +kernel
theorem dX2_joined_150 : decode cX2_joined 150 = .ok (.lconst 0, 1) := by decide +kernel
theorem dX2_joined_151 : decode cX2_joined 151 = .ok (.lreturn, 1) := by decide +kernel
theorem dX2_joined_152 : decode cX2_joined 152 = .ok (.lload_n 0, 1) := by decide +kernel
theorem dX2_joined_153 : decode cX2_joined 153 = .ok (.lload_n 3, 1) := by decide +kernel
theorem dX2_joined_154 : decode cX2_joined 154 = .ok (.lcmp, 1) := by decide +kernel
theorem dX2_joined_155 : decode cX2_joined 155 = .ok (.ifCond .gt 7, 3) := by decide +kernel
theorem dX2_joined_158 : decode cX2_joined 158 = .ok (.lconst 1, 1) := by decide +kernel
theorem dX2_joined_159 : decode cX2_joined 159 = .ok (.goto 4, 3) := by decide +kernel
theorem dX2_joined_162 : decode cX2_joined 162 = .ok (.lconst 0, 1) := by decide +kernel
theorem dX2_joined_163 : decode cX2_joined 163 = .ok (.lreturn, 1) := by decide +kernel
theorem dX2_joined_164 : decode cX2_joined 164 = .ok (.lload_n 0, 1) := by decide +kernel
theorem dX2_joined_165 : decode cX2_joined 165 = .ok (.lload_n 3, 1) := by decide +kernel
theorem dX2_joined_166 : decode cX2_joined 166 = .ok (.lcmp, 1) := by decide +kernel
theorem dX2_joined_167 : decode cX2_joined 167 = .ok (.ifCond .ne 7, 3) := by decide +kernel
theorem dX2_joined_170 : decode cX2_joined 170 = .ok (.lconst 1, 1) := by decide +kernel
theorem dX2_joined_171 : decode cX2_joined 171 = .ok (.goto 4, 3) := by decide +kernel
theorem dX2_joined_174 : decode cX2_joined 174 = .ok (.lconst 0, 1) := by decide +kernel
theorem dX2_joined_175 : decode cX2_joined 175 = .ok (.lreturn, 1) := by decide +kernel
theorem dX2_joined_176 : decode cX2_joined 176 = .ok (.lload_n 0, 1) := by decide +kernel
theorem dX2_joined_177 : decode cX2_joined 177 = .ok (.lload_n 3, 1) := by decide +kernel
theorem dX2_joined_178 : decode cX2_joined 178 = .ok (.lcmp, 1) := by decide +kernel
theorem dX2_joined_179 : decode cX2_joined 179 = .ok (.ifCond .lt 7, 3) := by decide +kernel
theorem dX2_joined_182 : decode cX2_joined 182 = .ok (.lconst 1, 1) := by decide +kernel
theorem dX2_joined_183 : decode cX2_joined 183 = .ok (.goto 4, 3) := by decide +kernel
theorem dX2_joined_186 : decode cX2_joined 186 = .ok (.lconst 0, 1) := by decide +kernel
theorem dX2_joined_187 : decode cX2_joined 187 = .ok (.lreturn, 1) := by decide +kernel
theorem dX2_joined_188 : decode cX2_joined 188 = .ok (.lload_n 0, 1) := by decide +kernel
theorem dX2_joined_189 : decode cX2_joined 189 = .ok (.lload_n 3, 1) := by decide +kernel
theorem dX2_joined_190 : decode cX2_joined 190 = .ok (.lcmp, 1) := by decide +kernel
theorem dX2_joined_191 : decode cX2_joined 191 = .ok (.ifCond .le 7, 3) := by decide +kernel
theorem dX2_joined_194 : decode cX2_joined 194 = .ok (.lconst 1, 1) := by decide +kernel
theorem dX2_joined_195 : decode cX2_joined 195 = .ok (.goto 4, 3) := by decide +kernel
theorem dX2_joined_198 : decode cX2_joined 198 = .ok (.lconst 0, 1) := by decide +kernel
theorem dX2_joined_199 : decode cX2_joined 199 = .ok (.lreturn, 1) := by decide +kernel
theorem dX2_joined_200 : decode cX2_joined 200 = .ok (.lload_n 0, 1) := by decide +kernel
theorem dX2_joined_201 : decode cX2_joined 201 = .ok (.lload_n 3, 1) := by decide +kernel
theorem dX2_joined_202 : decode cX2_joined 202 = .ok (.land, 1) := by decide +kernel
theorem dX2_joined_203 : decode cX2_joined 203 = .ok (.lreturn, 1) := by decide +kernel
theorem dX2_joined_204 : decode cX2_joined 204 = .ok (.lload_n 0, 1) := by decide +kernel
theorem dX2_joined_205 : decode cX2_joined 205 = .ok (.lload_n 3, 1) := by decide +kernel
theorem dX2_joined_206 : decode cX2_joined 206 = .ok (.lor, 1) := by decide +kernel
theorem dX2_joined_207 : decode cX2_joined 207 = .ok (.lreturn, 1) := by decide +kernel
noncomputable def f_X2_joined (G : GG) (v0 : Int64) (v2 : Int32) (v3 : Int64) (h : AH) : Option (Int64 × AH) :=
if v2 = (37 : Int32) then (if (lg_cmp v3 (0 : Int64)) = 0 then (some ((0 : Int64), h)) else
ck (¬ v3 = 0) <|
some (v0 - v0 / v3 * v3, h)) else
if v2 = (42 : Int32) then (some (v0 * v3, h)) else
if v2 = (43 : Int32) then (some (v0 + v3, h)) else
if v2 = (45 : Int32) then (some (v0 - v3, h)) else
if v2 = (47 : Int32) then (if (lg_cmp v3 (0 : Int64)) = 0 then (some ((0 : Int64), h)) else
ck (¬ v3 = 0) <|
some (v0 / v3, h)) else
if v2 = (60 : Int32) then (if 0 ≤ (lg_cmp v0 v3) then (some ((0 : Int64), h)) else
some ((1 : Int64), h)) else
if v2 = (61 : Int32) then (if (lg_cmp v0 v3) = 0 then (some ((1 : Int64), h)) else
some ((0 : Int64), h)) else
if v2 = (62 : Int32) then (if (lg_cmp v0 v3) ≤ 0 then (some ((0 : Int64), h)) else
some ((1 : Int64), h)) else
if v2 = (259 : Int32) then (if 0 < (lg_cmp v0 v3) then (some ((0 : Int64), h)) else
some ((1 : Int64), h)) else
if v2 = (260 : Int32) then (if (lg_cmp v0 v3) < 0 then (some ((0 : Int64), h)) else
some ((1 : Int64), h)) else
if v2 = (316 : Int32) then (some (v0 &&& v3, h)) else
some (v0 ||| v3, h)
set_option maxHeartbeats 4000000 in
set_option maxRecDepth 100000 in
theorem ct_X2_joined {G : GG} {l : Launch} {v0 : Int64} {v2 : Int32} {v3 : Int64} {h : AH} {y : Int64 × AH} (hf : f_X2_joined G v0 v2 v3 h = some y) : Ct G l yX2_joined cX2_joined 5 (some .long) 0 0 0 0 [.long v0, .int v2, .long v3] h (some (.long y.1), y.2) := by
  refine ct_of (by decide) (Nat.le_of_ble_eq_true rfl) ?_
  intro p e s m args below meth c C hm hr hin
  have C : Cx G cX2_joined RX2 p s m args meth c := C
  refine e_lv (lv2 := [(0, .long v0), (2, .int v2), (3, .long v3)]) [0, 1, 2] rfl ?_
  unfold f_X2_joined at hf
  refine e_iload_n (pc := 0) C dX2_joined_0 1 rfl rfl ?_
  rcases it_e hf with ⟨c1, hf⟩ | ⟨c1, hf⟩
  · refine e_lkK (pc := 1) (tgt := 126) (37 : Int32) c1 C dX2_joined_1 (by decide) rfl (by decide) ?_
    refine e_lload_n (pc := 126) C dX2_joined_126 2 rfl rfl ?_
    refine e_lconst (v := (0 : Int64)) (pc := 127) C dX2_joined_127 (by decide) ?_
    refine e_lcmp (pc := 128) C dX2_joined_128 ?_
    rcases it_e hf with ⟨c2, hf⟩ | ⟨c2, hf⟩
    · refine e_if_ne (pc := 129) (tgt := 136) C dX2_joined_129 (by decide) (fun q => absurd c2 q) (fun _ => ?_)
      refine e_lconst (v := (0 : Int64)) (pc := 132) C dX2_joined_132 (by decide) ?_
      refine e_goto (pc := 133) (tgt := 139) C dX2_joined_133 (by decide) ?_
      obtain rfl := so_e hf
      exact e_lret (pc := 139) C hr dX2_joined_139 (Nat.le_of_ble_eq_true rfl) (Nat.le_of_ble_eq_true rfl)
    · refine e_if_ne (pc := 129) (tgt := 136) C dX2_joined_129 (by decide) (fun _ => ?_) (fun q => absurd q c2)
      refine e_lload_n (pc := 136) C dX2_joined_136 0 rfl rfl ?_
      refine e_lload_n (pc := 137) C dX2_joined_137 2 rfl rfl ?_
      obtain ⟨q3, hf⟩ := ck_e hf
      refine e_lrem (pc := 138) C dX2_joined_138 q3 ?_
      obtain rfl := so_e hf
      exact e_lret (pc := 139) C hr dX2_joined_139 (Nat.le_of_ble_eq_true rfl) (Nat.le_of_ble_eq_true rfl)
  rcases it_e hf with ⟨c4, hf⟩ | ⟨c4, hf⟩
  · refine e_lkK (pc := 1) (tgt := 108) (42 : Int32) c4 C dX2_joined_1 (by decide) rfl (by decide) ?_
    refine e_lload_n (pc := 108) C dX2_joined_108 0 rfl rfl ?_
    refine e_lload_n (pc := 109) C dX2_joined_109 2 rfl rfl ?_
    refine e_lmul (pc := 110) C dX2_joined_110 ?_
    obtain rfl := so_e hf
    exact e_lret (pc := 111) C hr dX2_joined_111 (Nat.le_of_ble_eq_true rfl) (Nat.le_of_ble_eq_true rfl)
  rcases it_e hf with ⟨c5, hf⟩ | ⟨c5, hf⟩
  · refine e_lkK (pc := 1) (tgt := 100) (43 : Int32) c5 C dX2_joined_1 (by decide) rfl (by decide) ?_
    refine e_lload_n (pc := 100) C dX2_joined_100 0 rfl rfl ?_
    refine e_lload_n (pc := 101) C dX2_joined_101 2 rfl rfl ?_
    refine e_ladd (pc := 102) C dX2_joined_102 ?_
    obtain rfl := so_e hf
    exact e_lret (pc := 103) C hr dX2_joined_103 (Nat.le_of_ble_eq_true rfl) (Nat.le_of_ble_eq_true rfl)
  rcases it_e hf with ⟨c6, hf⟩ | ⟨c6, hf⟩
  · refine e_lkK (pc := 1) (tgt := 104) (45 : Int32) c6 C dX2_joined_1 (by decide) rfl (by decide) ?_
    refine e_lload_n (pc := 104) C dX2_joined_104 0 rfl rfl ?_
    refine e_lload_n (pc := 105) C dX2_joined_105 2 rfl rfl ?_
    refine e_lsub (pc := 106) C dX2_joined_106 ?_
    obtain rfl := so_e hf
    exact e_lret (pc := 107) C hr dX2_joined_107 (Nat.le_of_ble_eq_true rfl) (Nat.le_of_ble_eq_true rfl)
  rcases it_e hf with ⟨c7, hf⟩ | ⟨c7, hf⟩
  · refine e_lkK (pc := 1) (tgt := 112) (47 : Int32) c7 C dX2_joined_1 (by decide) rfl (by decide) ?_
    refine e_lload_n (pc := 112) C dX2_joined_112 2 rfl rfl ?_
    refine e_lconst (v := (0 : Int64)) (pc := 113) C dX2_joined_113 (by decide) ?_
    refine e_lcmp (pc := 114) C dX2_joined_114 ?_
    rcases it_e hf with ⟨c8, hf⟩ | ⟨c8, hf⟩
    · refine e_if_ne (pc := 115) (tgt := 122) C dX2_joined_115 (by decide) (fun q => absurd c8 q) (fun _ => ?_)
      refine e_lconst (v := (0 : Int64)) (pc := 118) C dX2_joined_118 (by decide) ?_
      refine e_goto (pc := 119) (tgt := 125) C dX2_joined_119 (by decide) ?_
      obtain rfl := so_e hf
      exact e_lret (pc := 125) C hr dX2_joined_125 (Nat.le_of_ble_eq_true rfl) (Nat.le_of_ble_eq_true rfl)
    · refine e_if_ne (pc := 115) (tgt := 122) C dX2_joined_115 (by decide) (fun _ => ?_) (fun q => absurd q c8)
      refine e_lload_n (pc := 122) C dX2_joined_122 0 rfl rfl ?_
      refine e_lload_n (pc := 123) C dX2_joined_123 2 rfl rfl ?_
      obtain ⟨q9, hf⟩ := ck_e hf
      refine e_ldiv (pc := 124) C dX2_joined_124 q9 ?_
      obtain rfl := so_e hf
      exact e_lret (pc := 125) C hr dX2_joined_125 (Nat.le_of_ble_eq_true rfl) (Nat.le_of_ble_eq_true rfl)
  rcases it_e hf with ⟨c10, hf⟩ | ⟨c10, hf⟩
  · refine e_lkK (pc := 1) (tgt := 140) (60 : Int32) c10 C dX2_joined_1 (by decide) rfl (by decide) ?_
    refine e_lload_n (pc := 140) C dX2_joined_140 0 rfl rfl ?_
    refine e_lload_n (pc := 141) C dX2_joined_141 2 rfl rfl ?_
    refine e_lcmp (pc := 142) C dX2_joined_142 ?_
    rcases it_e hf with ⟨c11, hf⟩ | ⟨c11, hf⟩
    · refine e_if_ge (pc := 143) (tgt := 150) C dX2_joined_143 (by decide) (fun _ => ?_) (fun q => absurd c11 q)
      refine e_lconst (v := (0 : Int64)) (pc := 150) C dX2_joined_150 (by decide) ?_
      obtain rfl := so_e hf
      exact e_lret (pc := 151) C hr dX2_joined_151 (Nat.le_of_ble_eq_true rfl) (Nat.le_of_ble_eq_true rfl)
    · refine e_if_ge (pc := 143) (tgt := 150) C dX2_joined_143 (by decide) (fun q => absurd q c11) (fun _ => ?_)
      refine e_lconst (v := (1 : Int64)) (pc := 146) C dX2_joined_146 (by decide) ?_
      refine e_goto (pc := 147) (tgt := 151) C dX2_joined_147 (by decide) ?_
      obtain rfl := so_e hf
      exact e_lret (pc := 151) C hr dX2_joined_151 (Nat.le_of_ble_eq_true rfl) (Nat.le_of_ble_eq_true rfl)
  rcases it_e hf with ⟨c12, hf⟩ | ⟨c12, hf⟩
  · refine e_lkK (pc := 1) (tgt := 164) (61 : Int32) c12 C dX2_joined_1 (by decide) rfl (by decide) ?_
    refine e_lload_n (pc := 164) C dX2_joined_164 0 rfl rfl ?_
    refine e_lload_n (pc := 165) C dX2_joined_165 2 rfl rfl ?_
    refine e_lcmp (pc := 166) C dX2_joined_166 ?_
    rcases it_e hf with ⟨c13, hf⟩ | ⟨c13, hf⟩
    · refine e_if_ne (pc := 167) (tgt := 174) C dX2_joined_167 (by decide) (fun q => absurd c13 q) (fun _ => ?_)
      refine e_lconst (v := (1 : Int64)) (pc := 170) C dX2_joined_170 (by decide) ?_
      refine e_goto (pc := 171) (tgt := 175) C dX2_joined_171 (by decide) ?_
      obtain rfl := so_e hf
      exact e_lret (pc := 175) C hr dX2_joined_175 (Nat.le_of_ble_eq_true rfl) (Nat.le_of_ble_eq_true rfl)
    · refine e_if_ne (pc := 167) (tgt := 174) C dX2_joined_167 (by decide) (fun _ => ?_) (fun q => absurd q c13)
      refine e_lconst (v := (0 : Int64)) (pc := 174) C dX2_joined_174 (by decide) ?_
      obtain rfl := so_e hf
      exact e_lret (pc := 175) C hr dX2_joined_175 (Nat.le_of_ble_eq_true rfl) (Nat.le_of_ble_eq_true rfl)
  rcases it_e hf with ⟨c14, hf⟩ | ⟨c14, hf⟩
  · refine e_lkK (pc := 1) (tgt := 188) (62 : Int32) c14 C dX2_joined_1 (by decide) rfl (by decide) ?_
    refine e_lload_n (pc := 188) C dX2_joined_188 0 rfl rfl ?_
    refine e_lload_n (pc := 189) C dX2_joined_189 2 rfl rfl ?_
    refine e_lcmp (pc := 190) C dX2_joined_190 ?_
    rcases it_e hf with ⟨c15, hf⟩ | ⟨c15, hf⟩
    · refine e_if_le (pc := 191) (tgt := 198) C dX2_joined_191 (by decide) (fun _ => ?_) (fun q => absurd c15 q)
      refine e_lconst (v := (0 : Int64)) (pc := 198) C dX2_joined_198 (by decide) ?_
      obtain rfl := so_e hf
      exact e_lret (pc := 199) C hr dX2_joined_199 (Nat.le_of_ble_eq_true rfl) (Nat.le_of_ble_eq_true rfl)
    · refine e_if_le (pc := 191) (tgt := 198) C dX2_joined_191 (by decide) (fun q => absurd q c15) (fun _ => ?_)
      refine e_lconst (v := (1 : Int64)) (pc := 194) C dX2_joined_194 (by decide) ?_
      refine e_goto (pc := 195) (tgt := 199) C dX2_joined_195 (by decide) ?_
      obtain rfl := so_e hf
      exact e_lret (pc := 199) C hr dX2_joined_199 (Nat.le_of_ble_eq_true rfl) (Nat.le_of_ble_eq_true rfl)
  rcases it_e hf with ⟨c16, hf⟩ | ⟨c16, hf⟩
  · refine e_lkK (pc := 1) (tgt := 152) (259 : Int32) c16 C dX2_joined_1 (by decide) rfl (by decide) ?_
    refine e_lload_n (pc := 152) C dX2_joined_152 0 rfl rfl ?_
    refine e_lload_n (pc := 153) C dX2_joined_153 2 rfl rfl ?_
    refine e_lcmp (pc := 154) C dX2_joined_154 ?_
    rcases it_e hf with ⟨c17, hf⟩ | ⟨c17, hf⟩
    · refine e_if_gt (pc := 155) (tgt := 162) C dX2_joined_155 (by decide) (fun _ => ?_) (fun q => absurd c17 q)
      refine e_lconst (v := (0 : Int64)) (pc := 162) C dX2_joined_162 (by decide) ?_
      obtain rfl := so_e hf
      exact e_lret (pc := 163) C hr dX2_joined_163 (Nat.le_of_ble_eq_true rfl) (Nat.le_of_ble_eq_true rfl)
    · refine e_if_gt (pc := 155) (tgt := 162) C dX2_joined_155 (by decide) (fun q => absurd q c17) (fun _ => ?_)
      refine e_lconst (v := (1 : Int64)) (pc := 158) C dX2_joined_158 (by decide) ?_
      refine e_goto (pc := 159) (tgt := 163) C dX2_joined_159 (by decide) ?_
      obtain rfl := so_e hf
      exact e_lret (pc := 163) C hr dX2_joined_163 (Nat.le_of_ble_eq_true rfl) (Nat.le_of_ble_eq_true rfl)
  rcases it_e hf with ⟨c18, hf⟩ | ⟨c18, hf⟩
  · refine e_lkK (pc := 1) (tgt := 176) (260 : Int32) c18 C dX2_joined_1 (by decide) rfl (by decide) ?_
    refine e_lload_n (pc := 176) C dX2_joined_176 0 rfl rfl ?_
    refine e_lload_n (pc := 177) C dX2_joined_177 2 rfl rfl ?_
    refine e_lcmp (pc := 178) C dX2_joined_178 ?_
    rcases it_e hf with ⟨c19, hf⟩ | ⟨c19, hf⟩
    · refine e_if_lt (pc := 179) (tgt := 186) C dX2_joined_179 (by decide) (fun _ => ?_) (fun q => absurd c19 q)
      refine e_lconst (v := (0 : Int64)) (pc := 186) C dX2_joined_186 (by decide) ?_
      obtain rfl := so_e hf
      exact e_lret (pc := 187) C hr dX2_joined_187 (Nat.le_of_ble_eq_true rfl) (Nat.le_of_ble_eq_true rfl)
    · refine e_if_lt (pc := 179) (tgt := 186) C dX2_joined_179 (by decide) (fun q => absurd q c19) (fun _ => ?_)
      refine e_lconst (v := (1 : Int64)) (pc := 182) C dX2_joined_182 (by decide) ?_
      refine e_goto (pc := 183) (tgt := 187) C dX2_joined_183 (by decide) ?_
      obtain rfl := so_e hf
      exact e_lret (pc := 187) C hr dX2_joined_187 (Nat.le_of_ble_eq_true rfl) (Nat.le_of_ble_eq_true rfl)
  rcases it_e hf with ⟨c20, hf⟩ | ⟨c20, hf⟩
  · refine e_lkK (pc := 1) (tgt := 200) (316 : Int32) c20 C dX2_joined_1 (by decide) rfl (by decide) ?_
    refine e_lload_n (pc := 200) C dX2_joined_200 0 rfl rfl ?_
    refine e_lload_n (pc := 201) C dX2_joined_201 2 rfl rfl ?_
    refine e_land (pc := 202) C dX2_joined_202 ?_
    obtain rfl := so_e hf
    exact e_lret (pc := 203) C hr dX2_joined_203 (Nat.le_of_ble_eq_true rfl) (Nat.le_of_ble_eq_true rfl)
  refine e_lkD (pc := 1) (tgt := 204) C dX2_joined_1 (by decide) (by intro q hq; simp only [List.mem_cons, List.not_mem_nil, or_false] at hq; rcases hq with rfl | rfl | rfl | rfl | rfl | rfl | rfl | rfl | rfl | rfl | rfl <;> (intro hh; first | exact i_ne 37 (by decide) c1 hh.symm | exact i_ne 42 (by decide) c4 hh.symm | exact i_ne 43 (by decide) c5 hh.symm | exact i_ne 45 (by decide) c6 hh.symm | exact i_ne 47 (by decide) c7 hh.symm | exact i_ne 60 (by decide) c10 hh.symm | exact i_ne 61 (by decide) c12 hh.symm | exact i_ne 62 (by decide) c14 hh.symm | exact i_ne 259 (by decide) c16 hh.symm | exact i_ne 260 (by decide) c18 hh.symm | exact i_ne 316 (by decide) c20 hh.symm)) (by decide) ?_
  refine e_lload_n (pc := 204) C dX2_joined_204 0 rfl rfl ?_
  refine e_lload_n (pc := 205) C dX2_joined_205 2 rfl rfl ?_
  refine e_lor (pc := 206) C dX2_joined_206 ?_
  obtain rfl := so_e hf
  exact e_lret (pc := 207) C hr dX2_joined_207 (Nat.le_of_ble_eq_true rfl) (Nat.le_of_ble_eq_true rfl)
theorem dX2_holeFor_0 : decode cX2_holeFor 0 = .ok (.aload_n 0, 1) := by decide +kernel
theorem dX2_holeFor_1 : decode cX2_holeFor 1 = .ok (.aload_n 1, 1) := by decide +kernel
theorem dX2_holeFor_2 : decode cX2_holeFor 2 = .ok (.invokevirtual 35, 3) := by decide +kernel
theorem dX2_holeFor_5 : decode cX2_holeFor 5 = .ok (.aload_n 0, 1) := by decide +kernel
theorem dX2_holeFor_6 : decode cX2_holeFor 6 = .ok (.iconst 0, 1) := by decide +kernel
theorem dX2_holeFor_7 : decode cX2_holeFor 7 = .ok (.putfield 15, 3) := by decide +kernel
theorem dX2_holeFor_10 : decode cX2_holeFor 10 = .ok (.iconst 0, 1) := by decide +kernel
theorem dX2_holeFor_11 : decode cX2_holeFor 11 = .ok (.istore_n 2, 1) := by decide +kernel
theorem dX2_holeFor_12 : decode cX2_holeFor 12 = .ok (.iload_n 2, 1) := by decide +kernel
theorem dX2_holeFor_13 : decode cX2_holeFor 13 = .ok (.aload_n 0, 1) := by decide +kernel
theorem dX2_holeFor_14 : decode cX2_holeFor 14 = .ok (.getfield 32, 3) := by decide +kernel
theorem dX2_holeFor_17 : decode cX2_holeFor 17 = .ok (.arraylength, 1) := by decide +kernel
theorem dX2_holeFor_18 : decode cX2_holeFor 18 = .ok (.if_icmp .ge 159, 3) := by decide +kernel
theorem dX2_holeFor_21 : decode cX2_holeFor 21 = .ok (.aload_n 0, 1) := by decide +kernel
theorem dX2_holeFor_22 : decode cX2_holeFor 22 = .ok (.getfield 32, 3) := by decide +kernel
theorem dX2_holeFor_25 : decode cX2_holeFor 25 = .ok (.iload_n 2, 1) := by decide +kernel
theorem dX2_holeFor_26 : decode cX2_holeFor 26 = .ok (.iaload, 1) := by decide +kernel
theorem dX2_holeFor_27 : decode cX2_holeFor 27 = .ok (.istore_n 3, 1) := by decide +kernel
theorem dX2_holeFor_28 : decode cX2_holeFor 28 = .ok (.iload_n 3, 1) := by decide +kernel
theorem dX2_holeFor_29 : decode cX2_holeFor 29 = .ok (.ifCond .lt 12, 3) := by decide +kernel
theorem dX2_holeFor_32 : decode cX2_holeFor 32 = .ok (.aload_n 0, 1) := by decide +kernel
theorem dX2_holeFor_33 : decode cX2_holeFor 33 = .ok (.iload_n 3, 1) := by decide +kernel
theorem dX2_holeFor_34 : decode cX2_holeFor 34 = .ok (.i2l, 1) := by decide +kernel
theorem dX2_holeFor_35 : decode cX2_holeFor 35 = .ok (.invokevirtual 39, 3) := by decide +kernel
theorem dX2_holeFor_38 : decode cX2_holeFor 38 = .ok (.goto 133, 3) := by decide +kernel
theorem dX2_holeFor_41 : decode cX2_holeFor 41 = .ok (.iload_n 3, 1) := by decide +kernel
theorem dX2_holeFor_42 : decode cX2_holeFor 42 = .ok (.ineg, 1) := by decide +kernel
theorem dX2_holeFor_43 : decode cX2_holeFor 43 = .ok (.sipush 300, 3) := by decide +kernel
theorem dX2_holeFor_46 : decode cX2_holeFor 46 = .ok (.if_icmp .lt 26, 3) := by decide +kernel
theorem dX2_holeFor_49 : decode cX2_holeFor 49 = .ok (.iload_n 3, 1) := by decide +kernel
theorem dX2_holeFor_50 : decode cX2_holeFor 50 = .ok (.ineg, 1) := by decide +kernel
theorem dX2_holeFor_51 : decode cX2_holeFor 51 = .ok (.sipush 312, 3) := by decide +kernel
theorem dX2_holeFor_54 : decode cX2_holeFor 54 = .ok (.if_icmp .gt 18, 3) := by decide +kernel
theorem dX2_holeFor_57 : decode cX2_holeFor 57 = .ok (.aload_n 0, 1) := by decide +kernel
theorem dX2_holeFor_58 : decode cX2_holeFor 58 = .ok (.aload_n 0, 1) := by decide +kernel
theorem dX2_holeFor_59 : decode cX2_holeFor 59 = .ok (.iload_n 3, 1) := by decide +kernel
theorem dX2_holeFor_60 : decode cX2_holeFor 60 = .ok (.ineg, 1) := by decide +kernel
theorem dX2_holeFor_61 : decode cX2_holeFor 61 = .ok (.aload_n 1, 1) := by decide +kernel
theorem dX2_holeFor_62 : decode cX2_holeFor 62 = .ok (.invokevirtual 42, 3) := by decide +kernel
theorem dX2_holeFor_65 : decode cX2_holeFor 65 = .ok (.i2l, 1) := by decide +kernel
theorem dX2_holeFor_66 : decode cX2_holeFor 66 = .ok (.invokevirtual 39, 3) := by decide +kernel
theorem dX2_holeFor_69 : decode cX2_holeFor 69 = .ok (.goto 102, 3) := by decide +kernel
theorem dX2_holeFor_72 : decode cX2_holeFor 72 = .ok (.iload_n 3, 1) := by decide +kernel
theorem dX2_holeFor_73 : decode cX2_holeFor 73 = .ok (.sipush (-317), 3) := by decide +kernel
theorem dX2_holeFor_76 : decode cX2_holeFor 76 = .ok (.if_icmp .ne 16, 3) := by decide +kernel
theorem dX2_holeFor_79 : decode cX2_holeFor 79 = .ok (.aload_n 0, 1) := by decide +kernel
theorem dX2_holeFor_80 : decode cX2_holeFor 80 = .ok (.lconst 1, 1) := by decide +kernel
theorem dX2_holeFor_81 : decode cX2_holeFor 81 = .ok (.aload_n 0, 1) := by decide +kernel
theorem dX2_holeFor_82 : decode cX2_holeFor 82 = .ok (.invokevirtual 46, 3) := by decide +kernel
theorem dX2_holeFor_85 : decode cX2_holeFor 85 = .ok (.lsub, 1) := by decide +kernel
theorem dX2_holeFor_86 : decode cX2_holeFor 86 = .ok (.invokevirtual 39, 3) := by decide +kernel
theorem dX2_holeFor_89 : decode cX2_holeFor 89 = .ok (.goto 82, 3) := by decide +kernel
theorem dX2_holeFor_92 : decode cX2_holeFor 92 = .ok (.iload_n 3, 1) := by decide +kernel
theorem dX2_holeFor_93 : decode cX2_holeFor 93 = .ok (.sipush (-313), 3) := by decide +kernel
theorem dX2_holeFor_96 : decode cX2_holeFor 96 = .ok (.if_icmp .ne 11, 3) := by decide +kernel
theorem dX2_holeFor_99 : decode cX2_holeFor 99 = .ok (.aload_n 0, 1) := by decide +kernel
theorem dX2_holeFor_100 : decode cX2_holeFor 100 = .ok (.invokevirtual 46, 3) := by decide +kernel
theorem dX2_holeFor_103 : decode cX2_holeFor 103 = .ok (.invokestatic 50, 3) := by decide +kernel
theorem dX2_holeFor_106 : decode cX2_holeFor 106 = .ok (.ireturn, 1) := by decide +kernel
theorem dX2_holeFor_107 : decode cX2_holeFor 107 = .ok (.iload_n 3, 1) := by decide +kernel
theorem dX2_holeFor_108 : decode cX2_holeFor 108 = .ok (.sipush (-314), 3) := by decide +kernel
theorem dX2_holeFor_111 : decode cX2_holeFor 111 = .ok (.if_icmp .ne 39, 3) := by decide +kernel
theorem dX2_holeFor_114 : decode cX2_holeFor 114 = .ok (.aload_n 0, 1) := by decide +kernel
theorem dX2_holeFor_115 : decode cX2_holeFor 115 = .ok (.invokevirtual 46, 3) := by decide +kernel
theorem dX2_holeFor_118 : decode cX2_holeFor 118 = .ok (.lconst 0, 1) := by decide +kernel
theorem dX2_holeFor_119 : decode cX2_holeFor 119 = .ok (.lcmp, 1) := by decide +kernel
theorem dX2_holeFor_120 : decode cX2_holeFor 120 = .ok (.ifCond .eq 7, 3) := by decide +kernel
theorem dX2_holeFor_123 : decode cX2_holeFor 123 = .ok (.iconst 1, 1) := by decide +kernel
theorem dX2_holeFor_124 : decode cX2_holeFor 124 = .ok (.goto 4, 3) := by decide +kernel
theorem dX2_holeFor_127 : decode cX2_holeFor 127 = .ok (.iconst 0, 1) := by decide +kernel
theorem dX2_holeFor_128 : decode cX2_holeFor 128 = .ok (.istore 4, 2) := by decide +kernel
theorem dX2_holeFor_130 : decode cX2_holeFor 130 = .ok (.aload_n 0, 1) := by decide +kernel
theorem dX2_holeFor_131 : decode cX2_holeFor 131 = .ok (.invokevirtual 46, 3) := by decide +kernel
theorem dX2_holeFor_134 : decode cX2_holeFor 134 = .ok (.lstore 5, 2) := by decide +kernel
theorem dX2_holeFor_136 : decode cX2_holeFor 136 = .ok (.iload 4, 2) := by decide +kernel
theorem dX2_holeFor_138 : decode cX2_holeFor 138 = .ok (.ifCond .eq 9, 3) := by decide +kernel
theorem dX2_holeFor_141 : decode cX2_holeFor 141 = .ok (.lload 5, 2) := by decide +kernel
theorem dX2_holeFor_143 : decode cX2_holeFor 143 = .ok (.invokestatic 50, 3) := by decide +kernel
theorem dX2_holeFor_146 : decode cX2_holeFor 146 = .ok (.ireturn, 1) := by decide +kernel
theorem dX2_holeFor_147 : decode cX2_holeFor 147 = .ok (.goto 24, 3) := by decide +kernel
theorem dX2_holeFor_150 : decode cX2_holeFor 150 = .ok (.aload_n 0, 1) := by decide +kernel
theorem dX2_holeFor_151 : decode cX2_holeFor 151 = .ok (.invokevirtual 46, 3) := by decide +kernel
theorem dX2_holeFor_154 : decode cX2_holeFor 154 = .ok (.lstore 4, 2) := by decide +kernel
theorem dX2_holeFor_156 : decode cX2_holeFor 156 = .ok (.aload_n 0, 1) := by decide +kernel
theorem dX2_holeFor_157 : decode cX2_holeFor 157 = .ok (.aload_n 0, 1) := by decide +kernel
theorem dX2_holeFor_158 : decode cX2_holeFor 158 = .ok (.invokevirtual 46, 3) := by decide +kernel
theorem dX2_holeFor_161 : decode cX2_holeFor 161 = .ok (.iload_n 3, 1) := by decide +kernel
theorem dX2_holeFor_162 : decode cX2_holeFor 162 = .ok (.ineg, 1) := by decide +kernel
theorem dX2_holeFor_163 : decode cX2_holeFor 163 = .ok (.lload 4, 2) := by decide +kernel
theorem dX2_holeFor_165 : decode cX2_holeFor 165 = .ok (.invokestatic 54, 3) := by decide +kernel
theorem dX2_holeFor_168 : decode cX2_holeFor 168 = .ok (.invokevirtual 39, 3) := by decide +kernel
theorem dX2_holeFor_171 : decode cX2_holeFor 171 = .ok (.iinc 2 1, 3) := by decide +kernel
theorem dX2_holeFor_174 : decode cX2_holeFor 174 = .ok (.goto (-162), 3) := by decide +kernel
theorem dX2_holeFor_177 : decode cX2_holeFor 177 = .ok (.aload_n 1, 1) := by decide +kernel
theorem dX2_holeFor_178 : decode cX2_holeFor 178 = .ok (.getfield 58, 3) := by decide +kernel
theorem dX2_holeFor_181 : decode cX2_holeFor 181 = .ok (.ireturn, 1) := by decide +kernel
noncomputable def F_X2_holeFor_12 (G : GG) (v0 : Nat) (v1 : Nat) (K_99 : AH → Option (Int32 × AH)) (K_141 : Int64 → AH → Option (Int32 × AH)) (self_12 : Int32 → AH → Option (Int32 × AH)) (v2 : Int32) (h : AH) : Option (Int32 × AH) :=
ck (m_t h v0 = .inl 2) <|
ob (m_r h v0 0) fun b7 =>
ob (alb h b7 .int) fun n8 =>
if (nI n8) ≤ v2 then (ck (m_t h v1 = .inl 0) <|
some (m_i h v1 2, h)) else
ob (m_r h v0 0) fun b11 =>
ck (ixb h b11 .int v2 = true) <|
nn (m_i h b11 v2.toNatClampNeg) fun x14 =>
nn (fun (h_171 : AH) => (nn (v2 + (1 : Int32)) fun x15 =>
self_12 x15 h_171)) fun j_171 =>
if x14 < 0 then (nn (fun (uu_72 : Unit) => (if x14 = (-317 : Int32) then (cb (f_X2_drop G v0 h) fun r20 h18 =>
ck (m_t h18 v0 = .inl 2) <|
ob (f_X2_stack G v0 ((1 : Int64) - r20) h18) fun h22 =>
j_171 h22) else
if x14 = (-313 : Int32) then (K_99 h) else
if x14 = (-314 : Int32) then (cb (f_X2_drop G v0 h) fun r28 h26 =>
nn (fun (s0_128 : Int32) => (ck (m_t h26 v0 = .inl 2) <|
cb (f_X2_drop G v0 h26) fun r32 h30 =>
if s0_128 = 0 then (j_171 h30) else
K_141 r32 h30)) fun j_128 =>
if (lg_cmp r28 (0 : Int64)) = 0 then (j_128 (0 : Int32)) else
j_128 (1 : Int32)) else
cb (f_X2_drop G v0 h) fun r37 h35 =>
ck (m_t h35 v0 = .inl 2) <|
cb (f_X2_drop G v0 h35) fun r41 h39 =>
cb (f_X2_joined G r41 (-x14) r37 h39) fun r44 h42 =>
ck (m_t h42 v0 = .inl 2) <|
ob (f_X2_stack G v0 r44 h42) fun h46 =>
j_171 h46)) fun j_72 =>
if (-x14) < (300 : Int32) then (j_72 ()) else
if (312 : Int32) < (-x14) then (j_72 ()) else
cb (f_X2_valueOf G v0 (-x14) v1 h) fun r52 h50 =>
ck (m_t h50 v0 = .inl 2) <|
ob (f_X2_stack G v0 r52.toInt64 h50) fun h54 =>
j_171 h54) else
ob (f_X2_stack G v0 x14.toInt64 h) fun h56 =>
j_171 h56
noncomputable def f_X2_holeFor (G : GG) (v0 : Nat) (v1 : Nat) (h : AH) : Option (Int32 × AH) :=
ck (m_t h v0 = .inl 2) <|
ob (f_X2_lookAround G v0 v1 h) fun h2 =>
ck (m_t h2 v0 = .inl 2) <|
nn (m_si h2 v0 2 (0 : Int32)) fun h5 =>
lq1 (F_X2_holeFor_12 G v0 v1 (fun (h_99 : AH) => (ck (m_t h_99 v0 = .inl 2) <|
cb (f_X2_drop G v0 h_99) fun r61 h59 =>
cb (f_X2_heldHole G r61 h59) fun r64 h62 =>
some (r64, h62))) (fun (v5_141 : Int64) (h_141 : AH) => (cb (f_X2_heldHole G v5_141 h_141) fun r67 h65 =>
some (r67, h65)))) bN (0 : Int32) h5
set_option maxHeartbeats 4000000 in
set_option maxRecDepth 100000 in
theorem el_X2_holeFor_12 {G : GG} {p : Program} {l : Launch} {e : Env} {s : State} {m : MethodId} {args : Array Value} {below : List Frame} {meth : Method} {c : Code} {y : Int32 × AH} (C : Cx G cX2_holeFor RX2 p s m args meth c) (hm : c.maxLocals = 7) (hr : meth.sig.returnType = (some .int)) (hin : meth.name = yX2_holeFor.name) {v0 : Nat} {v1 : Nat} {K_99 : AH → Option (Int32 × AH)} {K_141 : Int64 → AH → Option (Int32 × AH)} (hK_99 : ∀ (h : AH), K_99 h = some y → EE G p l e ({ frames := 3, cells := 0, slots := 0, locals := 72 } : Room) s m args below meth c (some (.int y.1), y.2) 0 0 99 [(0, .ref v0)] [] h 0 0) (hK_141 : ∀ (u5 : Int64) (h : AH), K_141 u5 h = some y → EE G p l e ({ frames := 3, cells := 0, slots := 0, locals := 72 } : Room) s m args below meth c (some (.int y.1), y.2) 0 0 141 [(5, .long u5)] [] h 0 0) :
    ∀ (n : Nat) (v2 : Int32) (h : AH), lq1 (F_X2_holeFor_12 G v0 v1 K_99 K_141) n v2 h = some y → EE G p l e ({ frames := 3, cells := 0, slots := 0, locals := 72 } : Room) s m args below meth c (some (.int y.1), y.2) 0 0 12 [(0, .ref v0), (1, .ref v1), (2, .int v2)] [] h 0 0 := by
  intro n
  induction n with
  | zero => intro v2 h hf; exact (no_e hf).elim
  | succ n ih_12 =>
    intro v2 h hf
    have hf : F_X2_holeFor_12 G v0 v1 K_99 K_141 (lq1 (F_X2_holeFor_12 G v0 v1 K_99 K_141) n) v2 h = some y := hf
    generalize lq1 (F_X2_holeFor_12 G v0 v1 K_99 K_141) n = self_12 at hf ih_12
    unfold F_X2_holeFor_12 at hf
    refine e_iload_n (pc := 12) C dX2_holeFor_12 2 rfl rfl ?_
    refine e_aload_n (pc := 13) C dX2_holeFor_13 0 rfl rfl ?_
    obtain ⟨t6, hf⟩ := ck_e hf
    refine e_getr (pc := 14) 2 0 C dX2_holeFor_14 (by decide) (by decide) g872 rfl t6 ?_
    obtain ⟨b7, eb7, hf⟩ := ob_e hf
    refine e_rf eb7 ?_
    obtain ⟨n8, en8, hf⟩ := ob_e hf
    refine e_alen (pc := 17) 0 rfl C dX2_holeFor_17 (al_e en8) ?_
    rcases it_e hf with ⟨c9, hf⟩ | ⟨c9, hf⟩
    · refine e_icmp_ge (pc := 18) (tgt := 177) C dX2_holeFor_18 (by decide) (fun _ => ?_) (fun q => absurd c9 q)
      refine e_aload_n (pc := 177) C dX2_holeFor_177 1 rfl rfl ?_
      obtain ⟨t10, hf⟩ := ck_e hf
      refine e_getiN (pc := 178) 0 2 C dX2_holeFor_178 (by decide) (by decide) g405 rfl t10 ?_
      obtain rfl := so_e hf
      exact e_iret (pc := 181) C hr dX2_holeFor_181 (Nat.le_of_ble_eq_true rfl) (Nat.le_of_ble_eq_true rfl)
    · refine e_icmp_ge (pc := 18) (tgt := 177) C dX2_holeFor_18 (by decide) (fun q => absurd q c9) (fun _ => ?_)
      refine e_aload_n (pc := 21) C dX2_holeFor_21 0 rfl rfl ?_
      refine e_getr (pc := 22) 2 0 C dX2_holeFor_22 (by decide) (by decide) g872 rfl t6 ?_
      obtain ⟨b11, eb11, hf⟩ := ob_e hf
      refine e_rf eb11 ?_
      refine e_iload_n (pc := 25) C dX2_holeFor_25 2 rfl rfl ?_
      obtain ⟨q12, hf⟩ := ck_e hf
      obtain ⟨n13, tn13, in13⟩ := ix_e q12
      refine e_iald (pc := 26) C dX2_holeFor_26 tn13 in13 ?_
      obtain ⟨x14, ex14, hf⟩ := nn_e hf
      refine e_topi ex14 ?_
      refine e_istore_n (pc := 27) (lv2 := [(3, .int x14), (0, .ref v0), (1, .ref v1), (2, .int v2)]) C hm dX2_holeFor_27 rfl (by decide) rfl ?_
      refine e_iload_n (pc := 28) C dX2_holeFor_28 0 rfl rfl ?_
      obtain ⟨j_171, ej_171, hf⟩ := nn_e hf
      have W_171 : ∀ (h_171 : AH), j_171 h_171 = some y → EE G p l e ({ frames := 3, cells := 0, slots := 0, locals := 72 } : Room) s m args below meth c (some (.int y.1), y.2) 0 0 171 [(0, .ref v0), (1, .ref v1), (2, .int v2)] [] h_171 0 0 := by
        intro h_171 hf
        rw [ej_171] at hf
        obtain ⟨x15, ex15, hf⟩ := nn_e hf
        refine e_iinc (pc := 171) (v := x15) (lv2 := [(2, .int x15), (0, .ref v0), (1, .ref v1)]) C hm dX2_holeFor_171 2 rfl (by rw [ex15]; rfl) (by decide) rfl ?_
        refine e_goto (pc := 174) (tgt := 12) C dX2_holeFor_174 (by decide) ?_
        refine e_lv (lv2 := [(0, .ref v0), (1, .ref v1), (2, .int x15)]) [1, 2, 0] rfl ?_
        exact ih_12 x15 h_171 hf
      rcases it_e hf with ⟨c16, hf⟩ | ⟨c16, hf⟩
      · refine e_if_lt (pc := 29) (tgt := 41) C dX2_holeFor_29 (by decide) (fun _ => ?_) (fun q => absurd c16 q)
        refine e_iload_n (pc := 41) C dX2_holeFor_41 0 rfl rfl ?_
        refine e_ineg (pc := 42) C dX2_holeFor_42 ?_
        refine e_sipush (v := (300 : Int32)) (pc := 43) C dX2_holeFor_43 (by decide) ?_
        obtain ⟨j_72, ej_72, hf⟩ := nn_e hf
        have W_72 : ∀ (uu_72 : Unit), j_72 uu_72 = some y → EE G p l e ({ frames := 3, cells := 0, slots := 0, locals := 72 } : Room) s m args below meth c (some (.int y.1), y.2) 0 0 72 [(0, .ref v0), (1, .ref v1), (2, .int v2), (3, .int x14)] [] h 0 0 := by
          intro uu_72 hf
          rw [ej_72] at hf
          refine e_iload_n (pc := 72) C dX2_holeFor_72 3 rfl rfl ?_
          refine e_sipush (v := (-317 : Int32)) (pc := 73) C dX2_holeFor_73 (by decide) ?_
          rcases it_e hf with ⟨c17, hf⟩ | ⟨c17, hf⟩
          · refine e_icmp_ne (pc := 76) (tgt := 92) C dX2_holeFor_76 (by decide) (fun q => absurd c17 q) (fun _ => ?_)
            refine e_aload_n (pc := 79) C dX2_holeFor_79 0 rfl rfl ?_
            refine e_lconst (v := (1 : Int64)) (pc := 80) C dX2_holeFor_80 (by decide) ?_
            refine e_aload_n (pc := 81) C dX2_holeFor_81 0 rfl rfl ?_
            obtain ⟨r20, h18, y19, hf⟩ := cb_e hf
            refine e_callVi (pc := 82) (st := [.long (1 : Int64), .ref v0]) 2 C (ct_X2_drop y19) dX2_holeFor_82 (by decide) t6 g1042 g1044 g33 g163 g1045 hd_X2_drop rfl ⟨Nat.le_of_ble_eq_true rfl, Nat.le_of_ble_eq_true rfl⟩ ⟨Nat.le_of_ble_eq_true rfl, Nat.le_of_ble_eq_true rfl⟩ rfl (Nat.le_of_ble_eq_true rfl) ?_
            refine e_lsub (pc := 85) C dX2_holeFor_85 ?_
            obtain ⟨t21, hf⟩ := ck_e hf
            obtain ⟨h22, y23, hf⟩ := ob_e hf
            refine e_callVv (pc := 86) (st := []) 2 C (ct_X2_stack y23) dX2_holeFor_86 (by decide) t21 g1013 g1015 g28 g163 g1016 hd_X2_stack rfl ⟨Nat.le_of_ble_eq_true rfl, Nat.le_of_ble_eq_true rfl⟩ ⟨Nat.le_of_ble_eq_true rfl, Nat.le_of_ble_eq_true rfl⟩ rfl (Nat.le_of_ble_eq_true rfl) ?_
            refine e_goto (pc := 89) (tgt := 171) C dX2_holeFor_89 (by decide) ?_
            refine e_lv (lv2 := [(0, .ref v0), (1, .ref v1), (2, .int v2)]) [0, 1, 2] rfl ?_
            exact W_171 h22 hf
          · refine e_icmp_ne (pc := 76) (tgt := 92) C dX2_holeFor_76 (by decide) (fun _ => ?_) (fun q => absurd q c17)
            refine e_iload_n (pc := 92) C dX2_holeFor_92 3 rfl rfl ?_
            refine e_sipush (v := (-313 : Int32)) (pc := 93) C dX2_holeFor_93 (by decide) ?_
            rcases it_e hf with ⟨c24, hf⟩ | ⟨c24, hf⟩
            · refine e_icmp_ne (pc := 96) (tgt := 107) C dX2_holeFor_96 (by decide) (fun q => absurd c24 q) (fun _ => ?_)
              refine e_lv (lv2 := [(0, .ref v0)]) [0] rfl ?_
              exact hK_99 h hf
            · refine e_icmp_ne (pc := 96) (tgt := 107) C dX2_holeFor_96 (by decide) (fun _ => ?_) (fun q => absurd q c24)
              refine e_iload_n (pc := 107) C dX2_holeFor_107 3 rfl rfl ?_
              refine e_sipush (v := (-314 : Int32)) (pc := 108) C dX2_holeFor_108 (by decide) ?_
              rcases it_e hf with ⟨c25, hf⟩ | ⟨c25, hf⟩
              · refine e_icmp_ne (pc := 111) (tgt := 150) C dX2_holeFor_111 (by decide) (fun q => absurd c25 q) (fun _ => ?_)
                refine e_aload_n (pc := 114) C dX2_holeFor_114 0 rfl rfl ?_
                obtain ⟨r28, h26, y27, hf⟩ := cb_e hf
                refine e_callVi (pc := 115) (st := []) 2 C (ct_X2_drop y27) dX2_holeFor_115 (by decide) t6 g1042 g1044 g33 g163 g1045 hd_X2_drop rfl ⟨Nat.le_of_ble_eq_true rfl, Nat.le_of_ble_eq_true rfl⟩ ⟨Nat.le_of_ble_eq_true rfl, Nat.le_of_ble_eq_true rfl⟩ rfl (Nat.le_of_ble_eq_true rfl) ?_
                refine e_lconst (v := (0 : Int64)) (pc := 118) C dX2_holeFor_118 (by decide) ?_
                refine e_lcmp (pc := 119) C dX2_holeFor_119 ?_
                obtain ⟨j_128, ej_128, hf⟩ := nn_e hf
                have W_128 : ∀ (s0_128 : Int32), j_128 s0_128 = some y → EE G p l e ({ frames := 3, cells := 0, slots := 0, locals := 72 } : Room) s m args below meth c (some (.int y.1), y.2) 0 0 128 [(0, .ref v0), (1, .ref v1), (2, .int v2)] [.int s0_128] h26 0 0 := by
                  intro s0_128 hf
                  rw [ej_128] at hf
                  refine e_istore (pc := 128) (lv2 := [(4, .int s0_128), (0, .ref v0), (1, .ref v1), (2, .int v2)]) C hm dX2_holeFor_128 (by decide) rfl ?_
                  refine e_aload_n (pc := 130) C dX2_holeFor_130 1 rfl rfl ?_
                  obtain ⟨t29, hf⟩ := ck_e hf
                  obtain ⟨r32, h30, y31, hf⟩ := cb_e hf
                  refine e_callVi (pc := 131) (st := []) 2 C (ct_X2_drop y31) dX2_holeFor_131 (by decide) t29 g1042 g1044 g33 g163 g1045 hd_X2_drop rfl ⟨Nat.le_of_ble_eq_true rfl, Nat.le_of_ble_eq_true rfl⟩ ⟨Nat.le_of_ble_eq_true rfl, Nat.le_of_ble_eq_true rfl⟩ rfl (Nat.le_of_ble_eq_true rfl) ?_
                  refine e_lstore (pc := 134) (lv2 := [(5, .long r32), (4, .int s0_128), (0, .ref v0), (1, .ref v1), (2, .int v2)]) C hm dX2_holeFor_134 (by decide) rfl ?_
                  refine e_iload (pc := 136) C dX2_holeFor_136 1 rfl ?_
                  rcases it_e hf with ⟨c33, hf⟩ | ⟨c33, hf⟩
                  · refine e_if_eq (pc := 138) (tgt := 147) C dX2_holeFor_138 (by decide) (fun _ => ?_) (fun q => absurd c33 q)
                    refine e_goto (pc := 147) (tgt := 171) C dX2_holeFor_147 (by decide) ?_
                    refine e_lv (lv2 := [(0, .ref v0), (1, .ref v1), (2, .int v2)]) [2, 3, 4] rfl ?_
                    exact W_171 h30 hf
                  · refine e_if_eq (pc := 138) (tgt := 147) C dX2_holeFor_138 (by decide) (fun q => absurd q c33) (fun _ => ?_)
                    refine e_lv (lv2 := [(5, .long r32)]) [0] rfl ?_
                    exact hK_141 r32 h30 hf
                rcases it_e hf with ⟨c34, hf⟩ | ⟨c34, hf⟩
                · refine e_if_eq (pc := 120) (tgt := 127) C dX2_holeFor_120 (by decide) (fun _ => ?_) (fun q => absurd c34 q)
                  refine e_iconst (v := (0 : Int32)) (pc := 127) C dX2_holeFor_127 (by decide) ?_
                  refine e_lv (lv2 := [(0, .ref v0), (1, .ref v1), (2, .int v2)]) [0, 1, 2] rfl ?_
                  exact W_128 (0 : Int32) hf
                · refine e_if_eq (pc := 120) (tgt := 127) C dX2_holeFor_120 (by decide) (fun q => absurd q c34) (fun _ => ?_)
                  refine e_iconst (v := (1 : Int32)) (pc := 123) C dX2_holeFor_123 (by decide) ?_
                  refine e_goto (pc := 124) (tgt := 128) C dX2_holeFor_124 (by decide) ?_
                  refine e_lv (lv2 := [(0, .ref v0), (1, .ref v1), (2, .int v2)]) [0, 1, 2] rfl ?_
                  exact W_128 (1 : Int32) hf
              · refine e_icmp_ne (pc := 111) (tgt := 150) C dX2_holeFor_111 (by decide) (fun _ => ?_) (fun q => absurd q c25)
                refine e_aload_n (pc := 150) C dX2_holeFor_150 0 rfl rfl ?_
                obtain ⟨r37, h35, y36, hf⟩ := cb_e hf
                refine e_callVi (pc := 151) (st := []) 2 C (ct_X2_drop y36) dX2_holeFor_151 (by decide) t6 g1042 g1044 g33 g163 g1045 hd_X2_drop rfl ⟨Nat.le_of_ble_eq_true rfl, Nat.le_of_ble_eq_true rfl⟩ ⟨Nat.le_of_ble_eq_true rfl, Nat.le_of_ble_eq_true rfl⟩ rfl (Nat.le_of_ble_eq_true rfl) ?_
                refine e_lstore (pc := 154) (lv2 := [(4, .long r37), (0, .ref v0), (1, .ref v1), (2, .int v2), (3, .int x14)]) C hm dX2_holeFor_154 (by decide) rfl ?_
                refine e_aload_n (pc := 156) C dX2_holeFor_156 1 rfl rfl ?_
                refine e_aload_n (pc := 157) C dX2_holeFor_157 1 rfl rfl ?_
                obtain ⟨t38, hf⟩ := ck_e hf
                obtain ⟨r41, h39, y40, hf⟩ := cb_e hf
                refine e_callVi (pc := 158) (st := [.ref v0]) 2 C (ct_X2_drop y40) dX2_holeFor_158 (by decide) t38 g1042 g1044 g33 g163 g1045 hd_X2_drop rfl ⟨Nat.le_of_ble_eq_true rfl, Nat.le_of_ble_eq_true rfl⟩ ⟨Nat.le_of_ble_eq_true rfl, Nat.le_of_ble_eq_true rfl⟩ rfl (Nat.le_of_ble_eq_true rfl) ?_
                refine e_iload_n (pc := 161) C dX2_holeFor_161 4 rfl rfl ?_
                refine e_ineg (pc := 162) C dX2_holeFor_162 ?_
                refine e_lload (pc := 163) C dX2_holeFor_163 0 rfl ?_
                obtain ⟨r44, h42, y43, hf⟩ := cb_e hf
                refine e_callSi (pc := 165) (st := [.ref v0]) C (ct_X2_joined y43) dX2_holeFor_165 g1056 g1057 g163 g1058 hd_X2_joined rfl ⟨Nat.le_of_ble_eq_true rfl, Nat.le_of_ble_eq_true rfl⟩ ⟨Nat.le_of_ble_eq_true rfl, Nat.le_of_ble_eq_true rfl⟩ rfl (Nat.le_of_ble_eq_true rfl) ?_
                obtain ⟨t45, hf⟩ := ck_e hf
                obtain ⟨h46, y47, hf⟩ := ob_e hf
                refine e_callVv (pc := 168) (st := []) 2 C (ct_X2_stack y47) dX2_holeFor_168 (by decide) t45 g1013 g1015 g28 g163 g1016 hd_X2_stack rfl ⟨Nat.le_of_ble_eq_true rfl, Nat.le_of_ble_eq_true rfl⟩ ⟨Nat.le_of_ble_eq_true rfl, Nat.le_of_ble_eq_true rfl⟩ rfl (Nat.le_of_ble_eq_true rfl) ?_
                refine e_lv (lv2 := [(0, .ref v0), (1, .ref v1), (2, .int v2)]) [1, 2, 3] rfl ?_
                exact W_171 h46 hf
        rcases it_e hf with ⟨c48, hf⟩ | ⟨c48, hf⟩
        · refine e_icmp_lt (pc := 46) (tgt := 72) C dX2_holeFor_46 (by decide) (fun _ => ?_) (fun q => absurd c48 q)
          refine e_lv (lv2 := [(0, .ref v0), (1, .ref v1), (2, .int v2), (3, .int x14)]) [1, 2, 3, 0] rfl ?_
          exact W_72 () hf
        · refine e_icmp_lt (pc := 46) (tgt := 72) C dX2_holeFor_46 (by decide) (fun q => absurd q c48) (fun _ => ?_)
          refine e_iload_n (pc := 49) C dX2_holeFor_49 0 rfl rfl ?_
          refine e_ineg (pc := 50) C dX2_holeFor_50 ?_
          refine e_sipush (v := (312 : Int32)) (pc := 51) C dX2_holeFor_51 (by decide) ?_
          rcases it_e hf with ⟨c49, hf⟩ | ⟨c49, hf⟩
          · refine e_icmp_gt (pc := 54) (tgt := 72) C dX2_holeFor_54 (by decide) (fun _ => ?_) (fun q => absurd c49 q)
            refine e_lv (lv2 := [(0, .ref v0), (1, .ref v1), (2, .int v2), (3, .int x14)]) [1, 2, 3, 0] rfl ?_
            exact W_72 () hf
          · refine e_icmp_gt (pc := 54) (tgt := 72) C dX2_holeFor_54 (by decide) (fun q => absurd q c49) (fun _ => ?_)
            refine e_aload_n (pc := 57) C dX2_holeFor_57 1 rfl rfl ?_
            refine e_aload_n (pc := 58) C dX2_holeFor_58 1 rfl rfl ?_
            refine e_iload_n (pc := 59) C dX2_holeFor_59 0 rfl rfl ?_
            refine e_ineg (pc := 60) C dX2_holeFor_60 ?_
            refine e_aload_n (pc := 61) C dX2_holeFor_61 2 rfl rfl ?_
            obtain ⟨r52, h50, y51, hf⟩ := cb_e hf
            refine e_callVi (pc := 62) (st := [.ref v0]) 2 C (ct_X2_valueOf y51) dX2_holeFor_62 (by decide) t6 g1017 g1019 g29 g163 g1020 hd_X2_valueOf rfl ⟨Nat.le_of_ble_eq_true rfl, Nat.le_of_ble_eq_true rfl⟩ ⟨Nat.le_of_ble_eq_true rfl, Nat.le_of_ble_eq_true rfl⟩ rfl (Nat.le_of_ble_eq_true rfl) ?_
            refine e_i2l (pc := 65) C dX2_holeFor_65 ?_
            obtain ⟨t53, hf⟩ := ck_e hf
            obtain ⟨h54, y55, hf⟩ := ob_e hf
            refine e_callVv (pc := 66) (st := []) 2 C (ct_X2_stack y55) dX2_holeFor_66 (by decide) t53 g1013 g1015 g28 g163 g1016 hd_X2_stack rfl ⟨Nat.le_of_ble_eq_true rfl, Nat.le_of_ble_eq_true rfl⟩ ⟨Nat.le_of_ble_eq_true rfl, Nat.le_of_ble_eq_true rfl⟩ rfl (Nat.le_of_ble_eq_true rfl) ?_
            refine e_goto (pc := 69) (tgt := 171) C dX2_holeFor_69 (by decide) ?_
            refine e_lv (lv2 := [(0, .ref v0), (1, .ref v1), (2, .int v2)]) [1, 2, 3] rfl ?_
            exact W_171 h54 hf
      · refine e_if_lt (pc := 29) (tgt := 41) C dX2_holeFor_29 (by decide) (fun q => absurd q c16) (fun _ => ?_)
        refine e_aload_n (pc := 32) C dX2_holeFor_32 1 rfl rfl ?_
        refine e_iload_n (pc := 33) C dX2_holeFor_33 0 rfl rfl ?_
        refine e_i2l (pc := 34) C dX2_holeFor_34 ?_
        obtain ⟨h56, y57, hf⟩ := ob_e hf
        refine e_callVv (pc := 35) (st := []) 2 C (ct_X2_stack y57) dX2_holeFor_35 (by decide) t6 g1013 g1015 g28 g163 g1016 hd_X2_stack rfl ⟨Nat.le_of_ble_eq_true rfl, Nat.le_of_ble_eq_true rfl⟩ ⟨Nat.le_of_ble_eq_true rfl, Nat.le_of_ble_eq_true rfl⟩ rfl (Nat.le_of_ble_eq_true rfl) ?_
        refine e_goto (pc := 38) (tgt := 171) C dX2_holeFor_38 (by decide) ?_
        refine e_lv (lv2 := [(0, .ref v0), (1, .ref v1), (2, .int v2)]) [1, 2, 3] rfl ?_
        exact W_171 h56 hf
set_option maxHeartbeats 4000000 in
set_option maxRecDepth 100000 in
theorem ct_X2_holeFor {G : GG} {l : Launch} {v0 : Nat} {v1 : Nat} {h : AH} {y : Int32 × AH} (hf : f_X2_holeFor G v0 v1 h = some y) : Ct G l yX2_holeFor cX2_holeFor 7 (some .int) 3 72 0 0 [.ref v0, .ref v1] h (some (.int y.1), y.2) := by
  refine ct_of (by decide) (Nat.le_of_ble_eq_true rfl) ?_
  intro p e s m args below meth c C hm hr hin
  have C : Cx G cX2_holeFor RX2 p s m args meth c := C
  refine e_lv (lv2 := [(0, .ref v0), (1, .ref v1)]) [0, 1] rfl ?_
  unfold f_X2_holeFor at hf
  refine e_aload_n (pc := 0) C dX2_holeFor_0 0 rfl rfl ?_
  refine e_aload_n (pc := 1) C dX2_holeFor_1 1 rfl rfl ?_
  obtain ⟨t1, hf⟩ := ck_e hf
  obtain ⟨h2, y3, hf⟩ := ob_e hf
  refine e_callVv (pc := 2) (st := []) 2 C (ct_X2_lookAround y3) dX2_holeFor_2 (by decide) t1 g1003 g1005 g27 g163 g1006 hd_X2_lookAround rfl ⟨Nat.le_of_ble_eq_true rfl, Nat.le_of_ble_eq_true rfl⟩ ⟨Nat.le_of_ble_eq_true rfl, Nat.le_of_ble_eq_true rfl⟩ rfl (Nat.le_of_ble_eq_true rfl) ?_
  refine e_aload_n (pc := 5) C dX2_holeFor_5 0 rfl rfl ?_
  refine e_iconst (v := (0 : Int32)) (pc := 6) C dX2_holeFor_6 (by decide) ?_
  obtain ⟨t4, hf⟩ := ck_e hf
  refine e_puti (pc := 7) 2 2 C dX2_holeFor_7 (by decide) (by decide) g874 rfl rfl rfl rfl t4 ?_
  obtain ⟨h5, eh5, hf⟩ := nn_e hf
  refine e_hp eh5 ?_
  have uh5 : m_t h5 = m_t h2 := by rw [eh5]; exact rfl
  refine e_iconst (v := (0 : Int32)) (pc := 10) C dX2_holeFor_10 (by decide) ?_
  refine e_istore_n (pc := 11) (lv2 := [(2, .int (0 : Int32)), (0, .ref v0), (1, .ref v1)]) C hm dX2_holeFor_11 rfl (by decide) rfl ?_
  refine e_lv (lv2 := [(0, .ref v0), (1, .ref v1), (2, .int (0 : Int32))]) [1, 2, 0] rfl ?_
  refine el_X2_holeFor_12 C hm hr hin (fun h_99 hf => ?_) (fun v5_141 h_141 hf => ?_) bN (0 : Int32) h5 hf
  · refine e_aload_n (pc := 99) C dX2_holeFor_99 0 rfl rfl ?_
    obtain ⟨t58, hf⟩ := ck_e hf
    obtain ⟨r61, h59, y60, hf⟩ := cb_e hf
    refine e_callVi (pc := 100) (st := []) 2 C (ct_X2_drop y60) dX2_holeFor_100 (by decide) t58 g1042 g1044 g33 g163 g1045 hd_X2_drop rfl ⟨Nat.le_of_ble_eq_true rfl, Nat.le_of_ble_eq_true rfl⟩ ⟨Nat.le_of_ble_eq_true rfl, Nat.le_of_ble_eq_true rfl⟩ rfl (Nat.le_of_ble_eq_true rfl) ?_
    obtain ⟨r64, h62, y63, hf⟩ := cb_e hf
    refine e_callSi (pc := 103) (st := []) C (ct_X2_heldHole y63) dX2_holeFor_103 g1046 g1047 g163 g1048 hd_X2_heldHole rfl ⟨Nat.le_of_ble_eq_true rfl, Nat.le_of_ble_eq_true rfl⟩ ⟨Nat.le_of_ble_eq_true rfl, Nat.le_of_ble_eq_true rfl⟩ rfl (Nat.le_of_ble_eq_true rfl) ?_
    obtain rfl := so_e hf
    exact e_iret (pc := 106) C hr dX2_holeFor_106 (Nat.le_of_ble_eq_true rfl) (Nat.le_of_ble_eq_true rfl)
  · refine e_lload (pc := 141) C dX2_holeFor_141 0 rfl ?_
    obtain ⟨r67, h65, y66, hf⟩ := cb_e hf
    refine e_callSi (pc := 143) (st := []) C (ct_X2_heldHole y66) dX2_holeFor_143 g1046 g1047 g163 g1048 hd_X2_heldHole rfl ⟨Nat.le_of_ble_eq_true rfl, Nat.le_of_ble_eq_true rfl⟩ ⟨Nat.le_of_ble_eq_true rfl, Nat.le_of_ble_eq_true rfl⟩ rfl (Nat.le_of_ble_eq_true rfl) ?_
    obtain rfl := so_e hf
    exact e_iret (pc := 146) C hr dX2_holeFor_146 (Nat.le_of_ble_eq_true rfl) (Nat.le_of_ble_eq_true rfl)
theorem dX0_suffer_0 : decode cX0_suffer 0 = .ok (.iconst 0, 1) := by decide +kernel
theorem dX0_suffer_1 : decode cX0_suffer 1 = .ok (.istore_n 1, 1) := by decide +kernel
theorem dX0_suffer_2 : decode cX0_suffer 2 = .ok (.aload_n 0, 1) := by decide +kernel
theorem dX0_suffer_3 : decode cX0_suffer 3 = .ok (.aload_n 0, 1) := by decide +kernel
theorem dX0_suffer_4 : decode cX0_suffer 4 = .ok (.getfield 15, 3) := by decide +kernel
theorem dX0_suffer_7 : decode cX0_suffer 7 = .ok (.invokevirtual 112, 3) := by decide +kernel
theorem dX0_suffer_10 : decode cX0_suffer 10 = .ok (.istore_n 2, 1) := by decide +kernel
theorem dX0_suffer_11 : decode cX0_suffer 11 = .ok (.iconst 0, 1) := by decide +kernel
theorem dX0_suffer_12 : decode cX0_suffer 12 = .ok (.istore_n 3, 1) := by decide +kernel
theorem dX0_suffer_13 : decode cX0_suffer 13 = .ok (.iload_n 3, 1) := by decide +kernel
theorem dX0_suffer_14 : decode cX0_suffer 14 = .ok (.aload_n 0, 1) := by decide +kernel
theorem dX0_suffer_15 : decode cX0_suffer 15 = .ok (.getfield 41, 3) := by decide +kernel
theorem dX0_suffer_18 : decode cX0_suffer 18 = .ok (.getfield 62, 3) := by decide +kernel
theorem dX0_suffer_21 : decode cX0_suffer 21 = .ok (.if_icmp .ge 90, 3) := by decide +kernel
theorem dX0_suffer_24 : decode cX0_suffer 24 = .ok (.aload_n 0, 1) := by decide +kernel
theorem dX0_suffer_25 : decode cX0_suffer 25 = .ok (.iload_n 3, 1) := by decide +kernel
theorem dX0_suffer_26 : decode cX0_suffer 26 = .ok (.invokevirtual 93, 3) := by decide +kernel
theorem dX0_suffer_29 : decode cX0_suffer 29 = .ok (.ifCond .eq 76, 3) := by decide +kernel
theorem dX0_suffer_32 : decode cX0_suffer 32 = .ok (.aload_n 0, 1) := by decide +kernel
theorem dX0_suffer_33 : decode cX0_suffer 33 = .ok (.iload_n 3, 1) := by decide +kernel
theorem dX0_suffer_34 : decode cX0_suffer 34 = .ok (.aload_n 0, 1) := by decide +kernel
theorem dX0_suffer_35 : decode cX0_suffer 35 = .ok (.getfield 28, 3) := by decide +kernel
theorem dX0_suffer_38 : decode cX0_suffer 38 = .ok (.iload_n 3, 1) := by decide +kernel
theorem dX0_suffer_39 : decode cX0_suffer 39 = .ok (.iaload, 1) := by decide +kernel
theorem dX0_suffer_40 : decode cX0_suffer 40 = .ok (.aload_n 0, 1) := by decide +kernel
theorem dX0_suffer_41 : decode cX0_suffer 41 = .ok (.getfield 15, 3) := by decide +kernel
theorem dX0_suffer_44 : decode cX0_suffer 44 = .ok (.invokevirtual 108, 3) := by decide +kernel
theorem dX0_suffer_47 : decode cX0_suffer 47 = .ok (.iload_n 2, 1) := by decide +kernel
theorem dX0_suffer_48 : decode cX0_suffer 48 = .ok (.iadd, 1) := by decide +kernel
theorem dX0_suffer_49 : decode cX0_suffer 49 = .ok (.istore 4, 2) := by decide +kernel
theorem dX0_suffer_51 : decode cX0_suffer 51 = .ok (.aload_n 0, 1) := by decide +kernel
theorem dX0_suffer_52 : decode cX0_suffer 52 = .ok (.getfield 35, 3) := by decide +kernel
theorem dX0_suffer_55 : decode cX0_suffer 55 = .ok (.iload_n 3, 1) := by decide +kernel
theorem dX0_suffer_56 : decode cX0_suffer 56 = .ok (.dup2, 1) := by decide +kernel
theorem dX0_suffer_57 : decode cX0_suffer 57 = .ok (.iaload, 1) := by decide +kernel
theorem dX0_suffer_58 : decode cX0_suffer 58 = .ok (.iload 4, 2) := by decide +kernel
theorem dX0_suffer_60 : decode cX0_suffer 60 = .ok (.iadd, 1) := by decide +kernel
theorem dX0_suffer_61 : decode cX0_suffer 61 = .ok (.iastore, 1) := by decide +kernel
theorem dX0_suffer_62 : decode cX0_suffer 62 = .ok (.iload_n 1, 1) := by decide +kernel
theorem dX0_suffer_63 : decode cX0_suffer 63 = .ok (.iload 4, 2) := by decide +kernel
theorem dX0_suffer_65 : decode cX0_suffer 65 = .ok (.iadd, 1) := by decide +kernel
theorem dX0_suffer_66 : decode cX0_suffer 66 = .ok (.istore_n 1, 1) := by decide +kernel
theorem dX0_suffer_67 : decode cX0_suffer 67 = .ok (.aload_n 0, 1) := by decide +kernel
theorem dX0_suffer_68 : decode cX0_suffer 68 = .ok (.iload_n 3, 1) := by decide +kernel
theorem dX0_suffer_69 : decode cX0_suffer 69 = .ok (.invokevirtual 154, 3) := by decide +kernel
theorem dX0_suffer_72 : decode cX0_suffer 72 = .ok (.aload_n 0, 1) := by decide +kernel
theorem dX0_suffer_73 : decode cX0_suffer 73 = .ok (.getfield 15, 3) := by decide +kernel
theorem dX0_suffer_76 : decode cX0_suffer 76 = .ok (.if_icmp .ne 7, 3) := by decide +kernel
theorem dX0_suffer_79 : decode cX0_suffer 79 = .ok (.iconst (-1), 1) := by decide +kernel
theorem dX0_suffer_80 : decode cX0_suffer 80 = .ok (.goto 4, 3) := by decide +kernel
theorem dX0_suffer_83 : decode cX0_suffer 83 = .ok (.iconst 1, 1) := by decide +kernel
theorem dX0_suffer_84 : decode cX0_suffer 84 = .ok (.istore 5, 2) := by decide +kernel
theorem dX0_suffer_86 : decode cX0_suffer 86 = .ok (.aload_n 0, 1) := by decide +kernel
theorem dX0_suffer_87 : decode cX0_suffer 87 = .ok (.getfield 32, 3) := by decide +kernel
theorem dX0_suffer_90 : decode cX0_suffer 90 = .ok (.iload_n 3, 1) := by decide +kernel
theorem dX0_suffer_91 : decode cX0_suffer 91 = .ok (.iconst 0, 1) := by decide +kernel
theorem dX0_suffer_92 : decode cX0_suffer 92 = .ok (.aload_n 0, 1) := by decide +kernel
theorem dX0_suffer_93 : decode cX0_suffer 93 = .ok (.getfield 32, 3) := by decide +kernel
theorem dX0_suffer_96 : decode cX0_suffer 96 = .ok (.iload_n 3, 1) := by decide +kernel
theorem dX0_suffer_97 : decode cX0_suffer 97 = .ok (.iaload, 1) := by decide +kernel
theorem dX0_suffer_98 : decode cX0_suffer 98 = .ok (.iload 5, 2) := by decide +kernel
theorem dX0_suffer_100 : decode cX0_suffer 100 = .ok (.iadd, 1) := by decide +kernel
theorem dX0_suffer_101 : decode cX0_suffer 101 = .ok (.invokestatic 125, 3) := by decide +kernel
theorem dX0_suffer_104 : decode cX0_suffer 104 = .ok (.iastore, 1) := by decide +kernel
theorem dX0_suffer_105 : decode cX0_suffer 105 = .ok (.iinc 3 1, 3) := by decide +kernel
theorem dX0_suffer_108 : decode cX0_suffer 108 = .ok (.goto (-95), 3) := by decide +kernel
theorem dX0_suffer_111 : decode cX0_suffer 111 = .ok (.iload_n 1, 1) := by decide +kernel
theorem dX0_suffer_112 : decode cX0_suffer 112 = .ok (.ireturn, 1) := by decide +kernel
noncomputable def F_X0_suffer_13 (G : GG) (v0 : Nat) (v2 : Int32) (self_13 : Int32 → Int32 → AH → Option (Int32 × AH)) (v1 : Int32) (v3 : Int32) (h : AH) : Option (Int32 × AH) :=
ck (m_t h v0 = .inl 0) <|
ob (m_r h v0 0) fun b6 =>
ck (m_t h b6 = .inl 9) <|
if (m_i h b6 5) ≤ v3 then (some (v1, h)) else
cb (f_X0_isAboard G v0 v3 h) fun r11 h9 =>
nn (fun (v1_105 : Int32) (h_105 : AH) => (nn (v3 + (1 : Int32)) fun x12 =>
self_13 v1_105 x12 h_105)) fun j_105 =>
if r11 = 0 then (j_105 v1 h9) else
ck (m_t h9 v0 = .inl 0) <|
ob (m_r h9 v0 6) fun b15 =>
ck (ixb h9 b15 .int v3 = true) <|
cb (f_X0_unease G v0 v3 (m_i h9 b15 v3.toNatClampNeg) (m_i h9 v0 2) h9) fun r20 h18 =>
nn (r20 + v2) fun x21 =>
ck (m_t h18 v0 = .inl 0) <|
ob (m_r h18 v0 8) fun b23 =>
ck (ixb h18 b23 .int v3 = true) <|
ck (ixb h18 b23 .int v3 = true) <|
nn (m_si h18 b23 v3.toNatClampNeg ((m_i h18 b23 v3.toNatClampNeg) + x21)) fun h28 =>
nn (v1 + x21) fun x29 =>
cb (f_X0_wantOf G v0 v3 h28) fun r32 h30 =>
ck (m_t h30 v0 = .inl 0) <|
nn (fun (s0_84 : Int32) => (ob (m_r h30 v0 7) fun b34 =>
ob (m_r h30 v0 7) fun b35 =>
ck (ixb h30 b35 .int v3 = true) <|
nn ((m_i h30 b35 v3.toNatClampNeg) + s0_84) fun x38 =>
nn (if (0 : Int32) < x38 then x38 else (0 : Int32)) fun x39 =>
ck (ixb h30 b34 .int v3 = true) <|
nn (m_si h30 b34 v3.toNatClampNeg x39) fun h42 =>
j_105 x29 h42)) fun j_84 =>
if r32 = (m_i h30 v0 2) then (j_84 (-1 : Int32)) else
j_84 (1 : Int32)
noncomputable def f_X0_suffer (G : GG) (v0 : Nat) (h : AH) : Option (Int32 × AH) :=
ck (m_t h v0 = .inl 0) <|
cb (f_X0_tollFor G v0 (m_i h v0 2) h) fun r4 h2 =>
lq2 (F_X0_suffer_13 G v0 r4 ) bN (0 : Int32) (0 : Int32) h2
set_option maxHeartbeats 4000000 in
set_option maxRecDepth 100000 in
theorem el_X0_suffer_13 {G : GG} {p : Program} {l : Launch} {e : Env} {s : State} {m : MethodId} {args : Array Value} {below : List Frame} {meth : Method} {c : Code} {y : Int32 × AH} (C : Cx G cX0_suffer RX0 p s m args meth c) (hm : c.maxLocals = 6) (hr : meth.sig.returnType = (some .int)) (hin : meth.name = yX0_suffer.name) {v0 : Nat} {v2 : Int32}  :
    ∀ (n : Nat) (v1 : Int32) (v3 : Int32) (h : AH), lq2 (F_X0_suffer_13 G v0 v2) n v1 v3 h = some y → EE G p l e ({ frames := 3, cells := 0, slots := 0, locals := 67 } : Room) s m args below meth c (some (.int y.1), y.2) 0 0 13 [(0, .ref v0), (1, .int v1), (2, .int v2), (3, .int v3)] [] h 0 0 := by
  intro n
  induction n with
  | zero => intro v1 v3 h hf; exact (no_e hf).elim
  | succ n ih_13 =>
    intro v1 v3 h hf
    have hf : F_X0_suffer_13 G v0 v2 (lq2 (F_X0_suffer_13 G v0 v2) n) v1 v3 h = some y := hf
    generalize lq2 (F_X0_suffer_13 G v0 v2) n = self_13 at hf ih_13
    unfold F_X0_suffer_13 at hf
    refine e_iload_n (pc := 13) C dX0_suffer_13 3 rfl rfl ?_
    refine e_aload_n (pc := 14) C dX0_suffer_14 0 rfl rfl ?_
    obtain ⟨t5, hf⟩ := ck_e hf
    refine e_getr (pc := 15) 0 0 C dX0_suffer_15 (by decide) (by decide) g393 rfl t5 ?_
    obtain ⟨b6, eb6, hf⟩ := ob_e hf
    refine e_rf eb6 ?_
    obtain ⟨t7, hf⟩ := ck_e hf
    refine e_getiN (pc := 18) 9 5 C dX0_suffer_18 (by decide) (by decide) g334 rfl t7 ?_
    rcases it_e hf with ⟨c8, hf⟩ | ⟨c8, hf⟩
    · refine e_icmp_ge (pc := 21) (tgt := 111) C dX0_suffer_21 (by decide) (fun _ => ?_) (fun q => absurd c8 q)
      refine e_iload_n (pc := 111) C dX0_suffer_111 1 rfl rfl ?_
      obtain rfl := so_e hf
      exact e_iret (pc := 112) C hr dX0_suffer_112 (Nat.le_of_ble_eq_true rfl) (Nat.le_of_ble_eq_true rfl)
    · refine e_icmp_ge (pc := 21) (tgt := 111) C dX0_suffer_21 (by decide) (fun q => absurd q c8) (fun _ => ?_)
      refine e_aload_n (pc := 24) C dX0_suffer_24 0 rfl rfl ?_
      refine e_iload_n (pc := 25) C dX0_suffer_25 3 rfl rfl ?_
      obtain ⟨r11, h9, y10, hf⟩ := cb_e hf
      refine e_callVi (pc := 26) (st := []) 0 C (ct_X0_isAboard y10) dX0_suffer_26 (by decide) t5 g1063 g909 g910 g151 g911 hd_X0_isAboard rfl ⟨Nat.le_of_ble_eq_true rfl, Nat.le_of_ble_eq_true rfl⟩ ⟨Nat.le_of_ble_eq_true rfl, Nat.le_of_ble_eq_true rfl⟩ rfl (Nat.le_of_ble_eq_true rfl) ?_
      obtain ⟨j_105, ej_105, hf⟩ := nn_e hf
      have W_105 : ∀ (v1_105 : Int32) (h_105 : AH), j_105 v1_105 h_105 = some y → EE G p l e ({ frames := 3, cells := 0, slots := 0, locals := 67 } : Room) s m args below meth c (some (.int y.1), y.2) 0 0 105 [(0, .ref v0), (1, .int v1_105), (2, .int v2), (3, .int v3)] [] h_105 0 0 := by
        intro v1_105 h_105 hf
        rw [ej_105] at hf
        obtain ⟨x12, ex12, hf⟩ := nn_e hf
        refine e_iinc (pc := 105) (v := x12) (lv2 := [(3, .int x12), (0, .ref v0), (1, .int v1_105), (2, .int v2)]) C hm dX0_suffer_105 3 rfl (by rw [ex12]; rfl) (by decide) rfl ?_
        refine e_goto (pc := 108) (tgt := 13) C dX0_suffer_108 (by decide) ?_
        refine e_lv (lv2 := [(0, .ref v0), (1, .int v1_105), (2, .int v2), (3, .int x12)]) [1, 2, 3, 0] rfl ?_
        exact ih_13 v1_105 x12 h_105 hf
      rcases it_e hf with ⟨c13, hf⟩ | ⟨c13, hf⟩
      · refine e_if_eq (pc := 29) (tgt := 105) C dX0_suffer_29 (by decide) (fun _ => ?_) (fun q => absurd c13 q)
        exact W_105 v1 h9 hf
      · refine e_if_eq (pc := 29) (tgt := 105) C dX0_suffer_29 (by decide) (fun q => absurd q c13) (fun _ => ?_)
        refine e_aload_n (pc := 32) C dX0_suffer_32 0 rfl rfl ?_
        refine e_iload_n (pc := 33) C dX0_suffer_33 3 rfl rfl ?_
        refine e_aload_n (pc := 34) C dX0_suffer_34 0 rfl rfl ?_
        obtain ⟨t14, hf⟩ := ck_e hf
        refine e_getr (pc := 35) 0 6 C dX0_suffer_35 (by decide) (by decide) g421 rfl t14 ?_
        obtain ⟨b15, eb15, hf⟩ := ob_e hf
        refine e_rf eb15 ?_
        refine e_iload_n (pc := 38) C dX0_suffer_38 3 rfl rfl ?_
        obtain ⟨q16, hf⟩ := ck_e hf
        obtain ⟨n17, tn17, in17⟩ := ix_e q16
        refine e_iald (pc := 39) C dX0_suffer_39 tn17 in17 ?_
        refine e_aload_n (pc := 40) C dX0_suffer_40 0 rfl rfl ?_
        refine e_geti (pc := 41) 0 2 C dX0_suffer_41 (by decide) (by decide) g402 rfl t14 ?_
        obtain ⟨r20, h18, y19, hf⟩ := cb_e hf
        refine e_callVi (pc := 44) (st := []) 0 C (ct_X0_unease y19) dX0_suffer_44 (by decide) t14 g925 g926 g927 g151 g928 hd_X0_unease rfl ⟨Nat.le_of_ble_eq_true rfl, Nat.le_of_ble_eq_true rfl⟩ ⟨Nat.le_of_ble_eq_true rfl, Nat.le_of_ble_eq_true rfl⟩ rfl (Nat.le_of_ble_eq_true rfl) ?_
        refine e_iload_n (pc := 47) C dX0_suffer_47 2 rfl rfl ?_
        refine e_iadd (pc := 48) C dX0_suffer_48 ?_
        obtain ⟨x21, ex21, hf⟩ := nn_e hf
        refine e_topi ex21 ?_
        refine e_istore (pc := 49) (lv2 := [(4, .int x21), (0, .ref v0), (1, .int v1), (2, .int v2), (3, .int v3)]) C hm dX0_suffer_49 (by decide) rfl ?_
        refine e_aload_n (pc := 51) C dX0_suffer_51 1 rfl rfl ?_
        obtain ⟨t22, hf⟩ := ck_e hf
        refine e_getr (pc := 52) 0 8 C dX0_suffer_52 (by decide) (by decide) g428 rfl t22 ?_
        obtain ⟨b23, eb23, hf⟩ := ob_e hf
        refine e_rf eb23 ?_
        refine e_iload_n (pc := 55) C dX0_suffer_55 4 rfl rfl ?_
        refine e_dup2 (pc := 56) C dX0_suffer_56 rfl rfl ?_
        obtain ⟨q24, hf⟩ := ck_e hf
        obtain ⟨n25, tn25, in25⟩ := ix_e q24
        refine e_iald (pc := 57) C dX0_suffer_57 tn25 in25 ?_
        refine e_iload (pc := 58) C dX0_suffer_58 0 rfl ?_
        refine e_iadd (pc := 60) C dX0_suffer_60 ?_
        obtain ⟨q26, hf⟩ := ck_e hf
        obtain ⟨n27, tn27, in27⟩ := ix_e q26
        refine e_iast (pc := 61) C dX0_suffer_61 tn27 in27 ?_
        obtain ⟨h28, eh28, hf⟩ := nn_e hf
        refine e_hp eh28 ?_
        have uh28 : m_t h28 = m_t h18 := by rw [eh28]; exact rfl
        refine e_iload_n (pc := 62) C dX0_suffer_62 2 rfl rfl ?_
        refine e_iload (pc := 63) C dX0_suffer_63 0 rfl ?_
        refine e_iadd (pc := 65) C dX0_suffer_65 ?_
        obtain ⟨x29, ex29, hf⟩ := nn_e hf
        refine e_topi ex29 ?_
        refine e_istore_n (pc := 66) (lv2 := [(1, .int x29), (4, .int x21), (0, .ref v0), (2, .int v2), (3, .int v3)]) C hm dX0_suffer_66 rfl (by decide) rfl ?_
        refine e_aload_n (pc := 67) C dX0_suffer_67 2 rfl rfl ?_
        refine e_iload_n (pc := 68) C dX0_suffer_68 4 rfl rfl ?_
        obtain ⟨r32, h30, y31, hf⟩ := cb_e hf
        refine e_callVi (pc := 69) (st := []) 0 C (ct_X0_wantOf y31) dX0_suffer_69 (by decide) (e_mt uh28 t22) g1064 g914 g915 g151 g916 hd_X0_wantOf rfl ⟨Nat.le_of_ble_eq_true rfl, Nat.le_of_ble_eq_true rfl⟩ ⟨Nat.le_of_ble_eq_true rfl, Nat.le_of_ble_eq_true rfl⟩ rfl (Nat.le_of_ble_eq_true rfl) ?_
        refine e_aload_n (pc := 72) C dX0_suffer_72 2 rfl rfl ?_
        obtain ⟨t33, hf⟩ := ck_e hf
        refine e_geti (pc := 73) 0 2 C dX0_suffer_73 (by decide) (by decide) g402 rfl t33 ?_
        obtain ⟨j_84, ej_84, hf⟩ := nn_e hf
        have W_84 : ∀ (s0_84 : Int32), j_84 s0_84 = some y → EE G p l e ({ frames := 3, cells := 0, slots := 0, locals := 67 } : Room) s m args below meth c (some (.int y.1), y.2) 0 0 84 [(0, .ref v0), (1, .int x29), (2, .int v2), (3, .int v3)] [.int s0_84] h30 0 0 := by
          intro s0_84 hf
          rw [ej_84] at hf
          refine e_istore (pc := 84) (lv2 := [(5, .int s0_84), (0, .ref v0), (1, .int x29), (2, .int v2), (3, .int v3)]) C hm dX0_suffer_84 (by decide) rfl ?_
          refine e_aload_n (pc := 86) C dX0_suffer_86 1 rfl rfl ?_
          refine e_getr (pc := 87) 0 7 C dX0_suffer_87 (by decide) (by decide) g425 rfl t33 ?_
          obtain ⟨b34, eb34, hf⟩ := ob_e hf
          refine e_rf eb34 ?_
          refine e_iload_n (pc := 90) C dX0_suffer_90 4 rfl rfl ?_
          refine e_iconst (v := (0 : Int32)) (pc := 91) C dX0_suffer_91 (by decide) ?_
          refine e_aload_n (pc := 92) C dX0_suffer_92 1 rfl rfl ?_
          refine e_getr (pc := 93) 0 7 C dX0_suffer_93 (by decide) (by decide) g425 rfl t33 ?_
          obtain ⟨b35, eb35, hf⟩ := ob_e hf
          refine e_rf eb35 ?_
          refine e_iload_n (pc := 96) C dX0_suffer_96 4 rfl rfl ?_
          obtain ⟨q36, hf⟩ := ck_e hf
          obtain ⟨n37, tn37, in37⟩ := ix_e q36
          refine e_iald (pc := 97) C dX0_suffer_97 tn37 in37 ?_
          refine e_iload (pc := 98) C dX0_suffer_98 0 rfl ?_
          refine e_iadd (pc := 100) C dX0_suffer_100 ?_
          obtain ⟨x38, ex38, hf⟩ := nn_e hf
          refine e_topi ex38 ?_
          refine e_mmax (pc := 101) C dX0_suffer_101 g1065 g1011 g164 g1012 (Nat.le_of_ble_eq_true rfl) (Nat.le_of_ble_eq_true rfl) (Nat.le_of_ble_eq_true rfl) (Nat.le_of_ble_eq_true rfl) ?_
          obtain ⟨x39, ex39, hf⟩ := nn_e hf
          refine e_topi ex39 ?_
          obtain ⟨q40, hf⟩ := ck_e hf
          obtain ⟨n41, tn41, in41⟩ := ix_e q40
          refine e_iast (pc := 104) C dX0_suffer_104 tn41 in41 ?_
          obtain ⟨h42, eh42, hf⟩ := nn_e hf
          refine e_hp eh42 ?_
          have uh42 : m_t h42 = m_t h30 := by rw [eh42]; exact rfl
          refine e_lv (lv2 := [(0, .ref v0), (1, .int x29), (2, .int v2), (3, .int v3)]) [1, 2, 3, 4] rfl ?_
          exact W_105 x29 h42 hf
        rcases it_e hf with ⟨c43, hf⟩ | ⟨c43, hf⟩
        · refine e_icmp_ne (pc := 76) (tgt := 83) C dX0_suffer_76 (by decide) (fun q => absurd c43 q) (fun _ => ?_)
          refine e_iconst (v := (-1 : Int32)) (pc := 79) C dX0_suffer_79 (by decide) ?_
          refine e_goto (pc := 80) (tgt := 84) C dX0_suffer_80 (by decide) ?_
          refine e_lv (lv2 := [(0, .ref v0), (1, .int x29), (2, .int v2), (3, .int v3)]) [2, 0, 3, 4] rfl ?_
          exact W_84 (-1 : Int32) hf
        · refine e_icmp_ne (pc := 76) (tgt := 83) C dX0_suffer_76 (by decide) (fun _ => ?_) (fun q => absurd q c43)
          refine e_iconst (v := (1 : Int32)) (pc := 83) C dX0_suffer_83 (by decide) ?_
          refine e_lv (lv2 := [(0, .ref v0), (1, .int x29), (2, .int v2), (3, .int v3)]) [2, 0, 3, 4] rfl ?_
          exact W_84 (1 : Int32) hf
set_option maxHeartbeats 4000000 in
set_option maxRecDepth 100000 in
theorem ct_X0_suffer {G : GG} {l : Launch} {v0 : Nat} {h : AH} {y : Int32 × AH} (hf : f_X0_suffer G v0 h = some y) : Ct G l yX0_suffer cX0_suffer 6 (some .int) 3 67 0 0 [.ref v0] h (some (.int y.1), y.2) := by
  refine ct_of (by decide) (Nat.le_of_ble_eq_true rfl) ?_
  intro p e s m args below meth c C hm hr hin
  have C : Cx G cX0_suffer RX0 p s m args meth c := C
  refine e_lv (lv2 := [(0, .ref v0)]) [0] rfl ?_
  unfold f_X0_suffer at hf
  refine e_iconst (v := (0 : Int32)) (pc := 0) C dX0_suffer_0 (by decide) ?_
  refine e_istore_n (pc := 1) (lv2 := [(1, .int (0 : Int32)), (0, .ref v0)]) C hm dX0_suffer_1 rfl (by decide) rfl ?_
  refine e_aload_n (pc := 2) C dX0_suffer_2 1 rfl rfl ?_
  refine e_aload_n (pc := 3) C dX0_suffer_3 1 rfl rfl ?_
  obtain ⟨t1, hf⟩ := ck_e hf
  refine e_geti (pc := 4) 0 2 C dX0_suffer_4 (by decide) (by decide) g402 rfl t1 ?_
  obtain ⟨r4, h2, y3, hf⟩ := cb_e hf
  refine e_callVi (pc := 7) (st := []) 0 C (ct_X0_tollFor y3) dX0_suffer_7 (by decide) t1 g933 g934 g935 g151 g936 hd_X0_tollFor rfl ⟨Nat.le_of_ble_eq_true rfl, Nat.le_of_ble_eq_true rfl⟩ ⟨Nat.le_of_ble_eq_true rfl, Nat.le_of_ble_eq_true rfl⟩ rfl (Nat.le_of_ble_eq_true rfl) ?_
  refine e_istore_n (pc := 10) (lv2 := [(2, .int r4), (1, .int (0 : Int32)), (0, .ref v0)]) C hm dX0_suffer_10 rfl (by decide) rfl ?_
  refine e_iconst (v := (0 : Int32)) (pc := 11) C dX0_suffer_11 (by decide) ?_
  refine e_istore_n (pc := 12) (lv2 := [(3, .int (0 : Int32)), (2, .int r4), (1, .int (0 : Int32)), (0, .ref v0)]) C hm dX0_suffer_12 rfl (by decide) rfl ?_
  refine e_lv (lv2 := [(0, .ref v0), (1, .int (0 : Int32)), (2, .int r4), (3, .int (0 : Int32))]) [3, 2, 1, 0] rfl ?_
  exact el_X0_suffer_13 C hm hr hin bN (0 : Int32) (0 : Int32) h2 hf
theorem dX11_warmthAfter_0 : decode cX11_warmthAfter 0 = .ok (.iconst 0, 1) := by decide +kernel
theorem dX11_warmthAfter_1 : decode cX11_warmthAfter 1 = .ok (.bipush 60, 2) := by decide +kernel
theorem dX11_warmthAfter_3 : decode cX11_warmthAfter 3 = .ok (.iload_n 0, 1) := by decide +kernel
theorem dX11_warmthAfter_4 : decode cX11_warmthAfter 4 = .ok (.iconst 2, 1) := by decide +kernel
theorem dX11_warmthAfter_5 : decode cX11_warmthAfter 5 = .ok (.iload_n 1, 1) := by decide +kernel
theorem dX11_warmthAfter_6 : decode cX11_warmthAfter 6 = .ok (.imul, 1) := by decide +kernel
theorem dX11_warmthAfter_7 : decode cX11_warmthAfter 7 = .ok (.iadd, 1) := by decide +kernel
theorem dX11_warmthAfter_8 : decode cX11_warmthAfter 8 = .ok (.iload_n 2, 1) := by decide +kernel
theorem dX11_warmthAfter_9 : decode cX11_warmthAfter 9 = .ok (.isub, 1) := by decide +kernel
theorem dX11_warmthAfter_10 : decode cX11_warmthAfter 10 = .ok (.iconst 1, 1) := by decide +kernel
theorem dX11_warmthAfter_11 : decode cX11_warmthAfter 11 = .ok (.isub, 1) := by decide +kernel
theorem dX11_warmthAfter_12 : decode cX11_warmthAfter 12 = .ok (.iload_n 3, 1) := by decide +kernel
theorem dX11_warmthAfter_13 : decode cX11_warmthAfter 13 = .ok (.isub, 1) := by decide +kernel
theorem dX11_warmthAfter_14 : decode cX11_warmthAfter 14 = .ok (.invokestatic 290, 3) := by decide +kernel
theorem dX11_warmthAfter_17 : decode cX11_warmthAfter 17 = .ok (.invokestatic 369, 3) := by decide +kernel
theorem dX11_warmthAfter_20 : decode cX11_warmthAfter 20 = .ok (.ireturn, 1) := by decide +kernel
noncomputable def f_X11_warmthAfter (G : GG) (v0 : Int32) (v1 : Int32) (v2 : Int32) (v3 : Int32) (h : AH) : Option (Int32 × AH) :=
nn ((((v0 + ((2 : Int32) * v1)) - v2) - (1 : Int32)) - v3) fun x1 =>
nn (if x1 < (60 : Int32) then x1 else (60 : Int32)) fun x2 =>
nn (if (0 : Int32) < x2 then x2 else (0 : Int32)) fun x3 =>
some (x3, h)
set_option maxHeartbeats 4000000 in
set_option maxRecDepth 100000 in
theorem ct_X11_warmthAfter {G : GG} {l : Launch} {v0 : Int32} {v1 : Int32} {v2 : Int32} {v3 : Int32} {h : AH} {y : Int32 × AH} (hf : f_X11_warmthAfter G v0 v1 v2 v3 h = some y) : Ct G l yX11_warmthAfter cX11_warmthAfter 4 (some .int) 1 24 0 0 [.int v0, .int v1, .int v2, .int v3] h (some (.int y.1), y.2) := by
  refine ct_of (by decide) (Nat.le_of_ble_eq_true rfl) ?_
  intro p e s m args below meth c C hm hr hin
  have C : Cx G cX11_warmthAfter RX11 p s m args meth c := C
  refine e_lv (lv2 := [(0, .int v0), (1, .int v1), (2, .int v2), (3, .int v3)]) [0, 1, 2, 3] rfl ?_
  unfold f_X11_warmthAfter at hf
  refine e_iconst (v := (0 : Int32)) (pc := 0) C dX11_warmthAfter_0 (by decide) ?_
  refine e_bipush (v := (60 : Int32)) (pc := 1) C dX11_warmthAfter_1 (by decide) ?_
  refine e_iload_n (pc := 3) C dX11_warmthAfter_3 0 rfl rfl ?_
  refine e_iconst (v := (2 : Int32)) (pc := 4) C dX11_warmthAfter_4 (by decide) ?_
  refine e_iload_n (pc := 5) C dX11_warmthAfter_5 1 rfl rfl ?_
  refine e_imul (pc := 6) C dX11_warmthAfter_6 ?_
  refine e_iadd (pc := 7) C dX11_warmthAfter_7 ?_
  refine e_iload_n (pc := 8) C dX11_warmthAfter_8 2 rfl rfl ?_
  refine e_isub (pc := 9) C dX11_warmthAfter_9 ?_
  refine e_iconst (v := (1 : Int32)) (pc := 10) C dX11_warmthAfter_10 (by decide) ?_
  refine e_isub (pc := 11) C dX11_warmthAfter_11 ?_
  refine e_iload_n (pc := 12) C dX11_warmthAfter_12 3 rfl rfl ?_
  refine e_isub (pc := 13) C dX11_warmthAfter_13 ?_
  obtain ⟨x1, ex1, hf⟩ := nn_e hf
  refine e_topi ex1 ?_
  refine e_mmin (pc := 14) C dX11_warmthAfter_14 g1071 g863 g164 g864 (Nat.le_of_ble_eq_true rfl) (Nat.le_of_ble_eq_true rfl) (Nat.le_of_ble_eq_true rfl) (Nat.le_of_ble_eq_true rfl) ?_
  obtain ⟨x2, ex2, hf⟩ := nn_e hf
  refine e_topi ex2 ?_
  refine e_mmax (pc := 17) C dX11_warmthAfter_17 g1072 g1011 g164 g1012 (Nat.le_of_ble_eq_true rfl) (Nat.le_of_ble_eq_true rfl) (Nat.le_of_ble_eq_true rfl) (Nat.le_of_ble_eq_true rfl) ?_
  obtain ⟨x3, ex3, hf⟩ := nn_e hf
  refine e_topi ex3 ?_
  obtain rfl := so_e hf
  exact e_iret (pc := 20) C hr dX11_warmthAfter_20 (Nat.le_of_ble_eq_true rfl) (Nat.le_of_ble_eq_true rfl)
theorem dX0_go_0 : decode cX0_go 0 = .ok (.aload_n 1, 1) := by decide +kernel
theorem dX0_go_1 : decode cX0_go 1 = .ok (.ifnull 12, 3) := by decide +kernel
theorem dX0_go_4 : decode cX0_go 4 = .ok (.aload_n 0, 1) := by decide +kernel
theorem dX0_go_5 : decode cX0_go 5 = .ok (.aload_n 1, 1) := by decide +kernel
theorem dX0_go_6 : decode cX0_go 6 = .ok (.aload_n 0, 1) := by decide +kernel
theorem dX0_go_7 : decode cX0_go 7 = .ok (.invokevirtual 128, 3) := by decide +kernel
theorem dX0_go_10 : decode cX0_go 10 = .ok (.putfield 15, 3) := by decide +kernel
theorem dX0_go_13 : decode cX0_go 13 = .ok (.aload_n 0, 1) := by decide +kernel
theorem dX0_go_14 : decode cX0_go 14 = .ok (.invokevirtual 134, 3) := by decide +kernel
theorem dX0_go_17 : decode cX0_go 17 = .ok (.istore_n 2, 1) := by decide +kernel
theorem dX0_go_18 : decode cX0_go 18 = .ok (.aload_n 0, 1) := by decide +kernel
theorem dX0_go_19 : decode cX0_go 19 = .ok (.aload_n 0, 1) := by decide +kernel
theorem dX0_go_20 : decode cX0_go 20 = .ok (.getfield 19, 3) := by decide +kernel
theorem dX0_go_23 : decode cX0_go 23 = .ok (.aload_n 0, 1) := by decide +kernel
theorem dX0_go_24 : decode cX0_go 24 = .ok (.getfield 25, 3) := by decide +kernel
theorem dX0_go_27 : decode cX0_go 27 = .ok (.aload_n 0, 1) := by decide +kernel
theorem dX0_go_28 : decode cX0_go 28 = .ok (.getfield 41, 3) := by decide +kernel
theorem dX0_go_31 : decode cX0_go 31 = .ok (.getfield 138, 3) := by decide +kernel
theorem dX0_go_34 : decode cX0_go 34 = .ok (.invokestatic 141, 3) := by decide +kernel
theorem dX0_go_37 : decode cX0_go 37 = .ok (.aload_n 0, 1) := by decide +kernel
theorem dX0_go_38 : decode cX0_go 38 = .ok (.getfield 15, 3) := by decide +kernel
theorem dX0_go_41 : decode cX0_go 41 = .ok (.aload_n 0, 1) := by decide +kernel
theorem dX0_go_42 : decode cX0_go 42 = .ok (.getfield 41, 3) := by decide +kernel
theorem dX0_go_45 : decode cX0_go 45 = .ok (.aload_n 0, 1) := by decide +kernel
theorem dX0_go_46 : decode cX0_go 46 = .ok (.getfield 22, 3) := by decide +kernel
theorem dX0_go_49 : decode cX0_go 49 = .ok (.invokevirtual 144, 3) := by decide +kernel
theorem dX0_go_52 : decode cX0_go 52 = .ok (.invokestatic 147, 3) := by decide +kernel
theorem dX0_go_55 : decode cX0_go 55 = .ok (.putfield 19, 3) := by decide +kernel
theorem dX0_go_58 : decode cX0_go 58 = .ok (.aload_n 0, 1) := by decide +kernel
theorem dX0_go_59 : decode cX0_go 59 = .ok (.aload_n 0, 1) := by decide +kernel
theorem dX0_go_60 : decode cX0_go 60 = .ok (.getfield 25, 3) := by decide +kernel
theorem dX0_go_63 : decode cX0_go 63 = .ok (.invokestatic 151, 3) := by decide +kernel
theorem dX0_go_66 : decode cX0_go 66 = .ok (.putfield 25, 3) := by decide +kernel
theorem dX0_go_69 : decode cX0_go 69 = .ok (.aload_n 0, 1) := by decide +kernel
theorem dX0_go_70 : decode cX0_go 70 = .ok (.dup, 1) := by decide +kernel
theorem dX0_go_71 : decode cX0_go 71 = .ok (.getfield 22, 3) := by decide +kernel
theorem dX0_go_74 : decode cX0_go 74 = .ok (.iconst 1, 1) := by decide +kernel
theorem dX0_go_75 : decode cX0_go 75 = .ok (.iadd, 1) := by decide +kernel
theorem dX0_go_76 : decode cX0_go 76 = .ok (.putfield 22, 3) := by decide +kernel
theorem dX0_go_79 : decode cX0_go 79 = .ok (.aload_n 0, 1) := by decide +kernel
theorem dX0_go_80 : decode cX0_go 80 = .ok (.invokevirtual 74, 3) := by decide +kernel
theorem dX0_go_83 : decode cX0_go 83 = .ok (.iload_n 2, 1) := by decide +kernel
theorem dX0_go_84 : decode cX0_go 84 = .ok (.ireturn, 1) := by decide +kernel
noncomputable def f_X0_go (G : GG) (v0 : Nat) (v1 : Option Nat) (h : AH) : Option (Int32 × AH) :=
nn (fun (h_13 : AH) => (ck (m_t h_13 v0 = .inl 0) <|
cb (f_X0_suffer G v0 h_13) fun r4 h2 =>
ck (m_t h2 v0 = .inl 0) <|
ob (m_r h2 v0 0) fun b6 =>
ck (m_t h2 b6 = .inl 9) <|
cb (f_X11_knobAgo G (m_i h2 v0 5) (m_i h2 b6 3) h2) fun r10 h8 =>
ck (m_t h8 v0 = .inl 0) <|
ob (m_r h8 v0 0) fun b12 =>
ck (m_t h8 b12 = .inl 9) <|
cb (f_X9_coldAt G b12 (m_i h8 v0 4) h8) fun r16 h14 =>
cb (f_X11_warmthAfter G (m_i h2 v0 3) r10 (m_i h8 v0 2) r16 h14) fun r19 h17 =>
ck (m_t h17 v0 = .inl 0) <|
nn (m_si h17 v0 3 r19) fun h21 =>
cb (f_X11_aMileOlder G (m_i h21 v0 5) h21) fun r24 h22 =>
ck (m_t h22 v0 = .inl 0) <|
nn (m_si h22 v0 5 r24) fun h26 =>
nn (m_si h26 v0 4 ((m_i h26 v0 4) + (1 : Int32))) fun h27 =>
ob (f_X0_changeRiders G v0 h27) fun h28 =>
some (r4, h28))) fun j_13 =>
on (v1) (j_13 h) fun b30 =>
ck (m_t h b30 = .inl 2) <|
cb (f_X2_holeFor G b30 v0 h) fun r35 h33 =>
ck (m_t h33 v0 = .inl 0) <|
nn (m_si h33 v0 2 r35) fun h37 =>
j_13 h37
set_option maxHeartbeats 4000000 in
set_option maxRecDepth 100000 in
theorem ct_X0_go {G : GG} {l : Launch} {v0 : Nat} {v1 : Option Nat} {h : AH} {y : Int32 × AH} (hf : f_X0_go G v0 v1 h = some y) : Ct G l yX0_go cX0_go 3 (some .int) 4 98 0 0 [.ref v0, va_rf v1] h (some (.int y.1), y.2) := by
  refine ct_of (by decide) (by cases v1 <;> exact Nat.le_of_ble_eq_true rfl) ?_
  intro p e s m args below meth c C hm hr hin
  have C : Cx G cX0_go RX0 p s m args meth c := C
  refine e_lv (lv2 := [(0, .ref v0), (1, va_rf v1)]) [0, 1] (by cases v1 <;> rfl) ?_
  unfold f_X0_go at hf
  refine e_aloado_n (pc := 0) C dX0_go_0 1 rfl rfl ?_
  obtain ⟨j_13, ej_13, hf⟩ := nn_e hf
  have W_13 : ∀ (h_13 : AH), j_13 h_13 = some y → EE G p l e ({ frames := 4, cells := 0, slots := 0, locals := 98 } : Room) s m args below meth c (some (.int y.1), y.2) 0 0 13 [(0, .ref v0)] [] h_13 0 0 := by
    intro h_13 hf
    rw [ej_13] at hf
    refine e_aload_n (pc := 13) C dX0_go_13 0 rfl rfl ?_
    obtain ⟨t1, hf⟩ := ck_e hf
    obtain ⟨r4, h2, y3, hf⟩ := cb_e hf
    refine e_callVi (pc := 14) (st := []) 0 C (ct_X0_suffer y3) dX0_go_14 (by decide) t1 g1059 g1061 g34 g151 g1062 hd_X0_suffer rfl ⟨Nat.le_of_ble_eq_true rfl, Nat.le_of_ble_eq_true rfl⟩ ⟨Nat.le_of_ble_eq_true rfl, Nat.le_of_ble_eq_true rfl⟩ rfl (Nat.le_of_ble_eq_true rfl) ?_
    refine e_istore_n (pc := 17) (lv2 := [(2, .int r4), (0, .ref v0)]) C hm dX0_go_17 rfl (by decide) rfl ?_
    refine e_aload_n (pc := 18) C dX0_go_18 1 rfl rfl ?_
    refine e_aload_n (pc := 19) C dX0_go_19 1 rfl rfl ?_
    obtain ⟨t5, hf⟩ := ck_e hf
    refine e_geti (pc := 20) 0 3 C dX0_go_20 (by decide) (by decide) g407 rfl t5 ?_
    refine e_aload_n (pc := 23) C dX0_go_23 1 rfl rfl ?_
    refine e_geti (pc := 24) 0 5 C dX0_go_24 (by decide) (by decide) g416 rfl t5 ?_
    refine e_aload_n (pc := 27) C dX0_go_27 1 rfl rfl ?_
    refine e_getr (pc := 28) 0 0 C dX0_go_28 (by decide) (by decide) g393 rfl t5 ?_
    obtain ⟨b6, eb6, hf⟩ := ob_e hf
    refine e_rf eb6 ?_
    obtain ⟨t7, hf⟩ := ck_e hf
    refine e_getiN (pc := 31) 9 3 C dX0_go_31 (by decide) (by decide) g327 rfl t7 ?_
    obtain ⟨r10, h8, y9, hf⟩ := cb_e hf
    refine e_callSNi (pc := 34) (st := [.int (m_i h2 v0 3), .ref v0]) C (ct_X11_knobAgo y9) dX0_go_34 g1066 g1040 g146 g1041 hd_X11_knobAgo rfl ⟨Nat.le_of_ble_eq_true rfl, Nat.le_of_ble_eq_true rfl⟩ ⟨Nat.le_of_ble_eq_true rfl, Nat.le_of_ble_eq_true rfl⟩ rfl (Nat.le_of_ble_eq_true rfl) ?_
    refine e_aload_n (pc := 37) C dX0_go_37 1 rfl rfl ?_
    obtain ⟨t11, hf⟩ := ck_e hf
    refine e_geti (pc := 38) 0 2 C dX0_go_38 (by decide) (by decide) g402 rfl t11 ?_
    refine e_aload_n (pc := 41) C dX0_go_41 1 rfl rfl ?_
    refine e_getr (pc := 42) 0 0 C dX0_go_42 (by decide) (by decide) g393 rfl t11 ?_
    obtain ⟨b12, eb12, hf⟩ := ob_e hf
    refine e_rf eb12 ?_
    refine e_aload_n (pc := 45) C dX0_go_45 1 rfl rfl ?_
    refine e_geti (pc := 46) 0 4 C dX0_go_46 (by decide) (by decide) g412 rfl t11 ?_
    obtain ⟨t13, hf⟩ := ck_e hf
    obtain ⟨r16, h14, y15, hf⟩ := cb_e hf
    refine e_callVi (pc := 49) (st := [.int (m_i h8 v0 2), .int r10, .int (m_i h2 v0 3), .ref v0]) 9 C (ct_X9_coldAt y15) dX0_go_49 (by decide) t13 g1067 g969 g970 g152 g971 hd_X9_coldAt rfl ⟨Nat.le_of_ble_eq_true rfl, Nat.le_of_ble_eq_true rfl⟩ ⟨Nat.le_of_ble_eq_true rfl, Nat.le_of_ble_eq_true rfl⟩ rfl (Nat.le_of_ble_eq_true rfl) ?_
    obtain ⟨r19, h17, y18, hf⟩ := cb_e hf
    refine e_callSNi (pc := 52) (st := [.ref v0]) C (ct_X11_warmthAfter y18) dX0_go_52 g1068 g1069 g146 g1070 hd_X11_warmthAfter rfl ⟨Nat.le_of_ble_eq_true rfl, Nat.le_of_ble_eq_true rfl⟩ ⟨Nat.le_of_ble_eq_true rfl, Nat.le_of_ble_eq_true rfl⟩ rfl (Nat.le_of_ble_eq_true rfl) ?_
    obtain ⟨t20, hf⟩ := ck_e hf
    refine e_puti (pc := 55) 0 3 C dX0_go_55 (by decide) (by decide) g407 rfl rfl rfl rfl t20 ?_
    obtain ⟨h21, eh21, hf⟩ := nn_e hf
    refine e_hp eh21 ?_
    have uh21 : m_t h21 = m_t h17 := by rw [eh21]; exact rfl
    refine e_aload_n (pc := 58) C dX0_go_58 1 rfl rfl ?_
    refine e_aload_n (pc := 59) C dX0_go_59 1 rfl rfl ?_
    refine e_geti (pc := 60) 0 5 C dX0_go_60 (by decide) (by decide) g416 rfl (e_mt uh21 t20) ?_
    obtain ⟨r24, h22, y23, hf⟩ := cb_e hf
    refine e_callSNi (pc := 63) (st := [.ref v0]) C (ct_X11_aMileOlder y23) dX0_go_63 g1073 g786 g146 g787 hd_X11_aMileOlder rfl ⟨Nat.le_of_ble_eq_true rfl, Nat.le_of_ble_eq_true rfl⟩ ⟨Nat.le_of_ble_eq_true rfl, Nat.le_of_ble_eq_true rfl⟩ rfl (Nat.le_of_ble_eq_true rfl) ?_
    obtain ⟨t25, hf⟩ := ck_e hf
    refine e_puti (pc := 66) 0 5 C dX0_go_66 (by decide) (by decide) g416 rfl rfl rfl rfl t25 ?_
    obtain ⟨h26, eh26, hf⟩ := nn_e hf
    refine e_hp eh26 ?_
    have uh26 : m_t h26 = m_t h22 := by rw [eh26]; exact rfl
    refine e_aload_n (pc := 69) C dX0_go_69 1 rfl rfl ?_
    refine e_dup (pc := 70) C dX0_go_70 rfl ?_
    refine e_geti (pc := 71) 0 4 C dX0_go_71 (by decide) (by decide) g412 rfl (e_mt uh26 t25) ?_
    refine e_iconst (v := (1 : Int32)) (pc := 74) C dX0_go_74 (by decide) ?_
    refine e_iadd (pc := 75) C dX0_go_75 ?_
    refine e_puti (pc := 76) 0 4 C dX0_go_76 (by decide) (by decide) g412 rfl rfl rfl rfl (e_mt uh26 t25) ?_
    obtain ⟨h27, eh27, hf⟩ := nn_e hf
    refine e_hp eh27 ?_
    have uh27 : m_t h27 = m_t h22 := by rw [eh27]; exact uh26
    refine e_aload_n (pc := 79) C dX0_go_79 1 rfl rfl ?_
    obtain ⟨h28, y29, hf⟩ := ob_e hf
    refine e_callVv (pc := 80) (st := []) 0 C (ct_X0_changeRiders y29) dX0_go_80 (by decide) (e_mt uh27 t25) g791 g793 g14 g151 g794 hd_X0_changeRiders rfl ⟨Nat.le_of_ble_eq_true rfl, Nat.le_of_ble_eq_true rfl⟩ ⟨Nat.le_of_ble_eq_true rfl, Nat.le_of_ble_eq_true rfl⟩ rfl (Nat.le_of_ble_eq_true rfl) ?_
    refine e_iload_n (pc := 83) C dX0_go_83 0 rfl rfl ?_
    obtain rfl := so_e hf
    exact e_iret (pc := 84) C hr dX0_go_84 (Nat.le_of_ble_eq_true rfl) (Nat.le_of_ble_eq_true rfl)
  rcases on_e hf with ⟨c31, hf⟩ | ⟨b30, c31, hf⟩
  · refine e_isnullN (pc := 1) (tgt := 13) c31 C dX0_go_1 (by decide) ?_
    refine e_lv (lv2 := [(0, .ref v0)]) [0] rfl ?_
    exact W_13 h hf
  · refine e_isnullS (pc := 1) c31 C dX0_go_1 ?_
    refine e_lv (lv2 := [(0, .ref v0), (1, .ref b30)]) [0, 1] (by rw [c31]; rfl) ?_
    refine e_aload_n (pc := 4) C dX0_go_4 0 rfl rfl ?_
    refine e_aload_n (pc := 5) C dX0_go_5 1 rfl rfl ?_
    refine e_aload_n (pc := 6) C dX0_go_6 0 rfl rfl ?_
    obtain ⟨t32, hf⟩ := ck_e hf
    obtain ⟨r35, h33, y34, hf⟩ := cb_e hf
    refine e_callVi (pc := 7) (st := [.ref v0]) 2 C (ct_X2_holeFor y34) dX0_go_7 (by decide) t32 g999 g1000 g1001 g163 g1002 hd_X2_holeFor rfl ⟨Nat.le_of_ble_eq_true rfl, Nat.le_of_ble_eq_true rfl⟩ ⟨Nat.le_of_ble_eq_true rfl, Nat.le_of_ble_eq_true rfl⟩ rfl (Nat.le_of_ble_eq_true rfl) ?_
    obtain ⟨t36, hf⟩ := ck_e hf
    refine e_puti (pc := 10) 0 2 C dX0_go_10 (by decide) (by decide) g402 rfl rfl rfl rfl t36 ?_
    obtain ⟨h37, eh37, hf⟩ := nn_e hf
    refine e_hp eh37 ?_
    have uh37 : m_t h37 = m_t h33 := by rw [eh37]; exact rfl
    refine e_lv (lv2 := [(0, .ref v0)]) [0] rfl ?_
    exact W_13 h37 hf
theorem dX11_mile_0 : decode cX11_mile 0 = .ok (.aload_n 0, 1) := by decide +kernel
theorem dX11_mile_1 : decode cX11_mile 1 = .ok (.invokevirtual 187, 3) := by decide +kernel
theorem dX11_mile_4 : decode cX11_mile 4 = .ok (.ifCond .eq 10, 3) := by decide +kernel
theorem dX11_mile_7 : decode cX11_mile 7 = .ok (.aload_n 0, 1) := by decide +kernel
theorem dX11_mile_8 : decode cX11_mile 8 = .ok (.invokevirtual 200, 3) := by decide +kernel
theorem dX11_mile_11 : decode cX11_mile 11 = .ok (.ifCond .ne 5, 3) := by decide +kernel
theorem dX11_mile_14 : decode cX11_mile 14 = .ok (.iconst (-1), 1) := by decide +kernel
theorem dX11_mile_15 : decode cX11_mile 15 = .ok (.ireturn, 1) := by decide +kernel
theorem dX11_mile_16 : decode cX11_mile 16 = .ok (.aload_n 0, 1) := by decide +kernel
theorem dX11_mile_17 : decode cX11_mile 17 = .ok (.getfield 55, 3) := by decide +kernel
theorem dX11_mile_20 : decode cX11_mile 20 = .ok (.invokevirtual 204, 3) := by decide +kernel
theorem dX11_mile_23 : decode cX11_mile 23 = .ok (.aload_n 0, 1) := by decide +kernel
theorem dX11_mile_24 : decode cX11_mile 24 = .ok (.aload_n 0, 1) := by decide +kernel
theorem dX11_mile_25 : decode cX11_mile 25 = .ok (.getfield 55, 3) := by decide +kernel
theorem dX11_mile_28 : decode cX11_mile 28 = .ok (.getfield 130, 3) := by decide +kernel
theorem dX11_mile_31 : decode cX11_mile 31 = .ok (.invokevirtual 208, 3) := by decide +kernel
theorem dX11_mile_34 : decode cX11_mile 34 = .ok (.invokevirtual 212, 3) := by decide +kernel
theorem dX11_mile_37 : decode cX11_mile 37 = .ok (.ireturn, 1) := by decide +kernel
noncomputable def f_X11_mile (G : GG) (v0 : Nat) (h : AH) : Option (Int32 × AH) :=
ck (m_t h v0 = .inl 11) <|
cb (f_X11_hasTrain G v0 h) fun r4 h2 =>
if r4 = 0 then (some ((-1 : Int32), h2)) else
ck (m_t h2 v0 = .inl 11) <|
cb (f_X11_milesLeft G v0 h2) fun r9 h7 =>
if r9 = 0 then (some ((-1 : Int32), h7)) else
ck (m_t h7 v0 = .inl 11) <|
ob (m_r h7 v0 5) fun b12 =>
ck (m_t h7 b12 = .inl 6) <|
cb (f_X6_act G b12 h7) fun r16 h14 =>
ck (m_t h14 v0 = .inl 11) <|
ob (m_r h14 v0 5) fun b18 =>
ck (m_t h14 b18 = .inl 6) <|
cb (f_X11_lawOf G v0 (m_i h14 b18 2) h14) fun r22 h20 =>
ck (m_t h20 r16 = .inl 0) <|
cb (f_X0_go G r16 r22 h20) fun r26 h24 =>
some (r26, h24)
set_option maxHeartbeats 4000000 in
set_option maxRecDepth 100000 in
theorem ct_X11_mile {G : GG} {l : Launch} {v0 : Nat} {h : AH} {y : Int32 × AH} (hf : f_X11_mile G v0 h = some y) : Ct G l yX11_mile cX11_mile 1 (some .int) 5 120 5 42 [.ref v0] h (some (.int y.1), y.2) := by
  refine ct_of (by decide) (Nat.le_of_ble_eq_true rfl) ?_
  intro p e s m args below meth c C hm hr hin
  have C : Cx G cX11_mile RX11 p s m args meth c := C
  refine e_lv (lv2 := [(0, .ref v0)]) [0] rfl ?_
  unfold f_X11_mile at hf
  refine e_aload_n (pc := 0) C dX11_mile_0 0 rfl rfl ?_
  obtain ⟨t1, hf⟩ := ck_e hf
  obtain ⟨r4, h2, y3, hf⟩ := cb_e hf
  refine e_callVi (pc := 1) (st := []) 11 C (ct_X11_hasTrain y3) dX11_mile_1 (by decide) t1 g956 g958 g24 g146 g959 hd_X11_hasTrain rfl ⟨Nat.le_of_ble_eq_true rfl, Nat.le_of_ble_eq_true rfl⟩ ⟨Nat.le_of_ble_eq_true rfl, Nat.le_of_ble_eq_true rfl⟩ rfl (Nat.le_of_ble_eq_true rfl) ?_
  rcases it_e hf with ⟨c5, hf⟩ | ⟨c5, hf⟩
  · refine e_if_eq (pc := 4) (tgt := 14) C dX11_mile_4 (by decide) (fun _ => ?_) (fun q => absurd c5 q)
    refine e_iconst (v := (-1 : Int32)) (pc := 14) C dX11_mile_14 (by decide) ?_
    obtain rfl := so_e hf
    exact e_iret (pc := 15) C hr dX11_mile_15 (Nat.le_of_ble_eq_true rfl) (Nat.le_of_ble_eq_true rfl)
  · refine e_if_eq (pc := 4) (tgt := 14) C dX11_mile_4 (by decide) (fun q => absurd q c5) (fun _ => ?_)
    refine e_aload_n (pc := 7) C dX11_mile_7 0 rfl rfl ?_
    obtain ⟨t6, hf⟩ := ck_e hf
    obtain ⟨r9, h7, y8, hf⟩ := cb_e hf
    refine e_callVi (pc := 8) (st := []) 11 C (ct_X11_milesLeft y8) dX11_mile_8 (by decide) t6 g977 g979 g25 g146 g980 hd_X11_milesLeft rfl ⟨Nat.le_of_ble_eq_true rfl, Nat.le_of_ble_eq_true rfl⟩ ⟨Nat.le_of_ble_eq_true rfl, Nat.le_of_ble_eq_true rfl⟩ rfl (Nat.le_of_ble_eq_true rfl) ?_
    rcases it_e hf with ⟨c10, hf⟩ | ⟨c10, hf⟩
    · refine e_if_ne (pc := 11) (tgt := 16) C dX11_mile_11 (by decide) (fun q => absurd c10 q) (fun _ => ?_)
      refine e_iconst (v := (-1 : Int32)) (pc := 14) C dX11_mile_14 (by decide) ?_
      obtain rfl := so_e hf
      exact e_iret (pc := 15) C hr dX11_mile_15 (Nat.le_of_ble_eq_true rfl) (Nat.le_of_ble_eq_true rfl)
    · refine e_if_ne (pc := 11) (tgt := 16) C dX11_mile_11 (by decide) (fun _ => ?_) (fun q => absurd q c10)
      refine e_aload_n (pc := 16) C dX11_mile_16 0 rfl rfl ?_
      obtain ⟨t11, hf⟩ := ck_e hf
      refine e_getr (pc := 17) 11 5 C dX11_mile_17 (by decide) (by decide) g578 rfl t11 ?_
      obtain ⟨b12, eb12, hf⟩ := ob_e hf
      refine e_rf eb12 ?_
      obtain ⟨t13, hf⟩ := ck_e hf
      obtain ⟨r16, h14, y15, hf⟩ := cb_e hf
      refine e_callVi (pc := 20) (st := []) 6 C (ct_X6_act y15) dX11_mile_20 (by decide) t13 g981 g982 g983 g150 g984 hd_X6_act rfl ⟨Nat.le_of_ble_eq_true rfl, Nat.le_of_ble_eq_true rfl⟩ ⟨Nat.le_of_ble_eq_true rfl, Nat.le_of_ble_eq_true rfl⟩ rfl (Nat.le_of_ble_eq_true rfl) ?_
      refine e_aload_n (pc := 23) C dX11_mile_23 0 rfl rfl ?_
      refine e_aload_n (pc := 24) C dX11_mile_24 0 rfl rfl ?_
      obtain ⟨t17, hf⟩ := ck_e hf
      refine e_getr (pc := 25) 11 5 C dX11_mile_25 (by decide) (by decide) g578 rfl t17 ?_
      obtain ⟨b18, eb18, hf⟩ := ob_e hf
      refine e_rf eb18 ?_
      obtain ⟨t19, hf⟩ := ck_e hf
      refine e_getiN (pc := 28) 6 2 C dX11_mile_28 (by decide) (by decide) g463 rfl t19 ?_
      obtain ⟨r22, h20, y21, hf⟩ := cb_e hf
      refine e_callVi (pc := 31) (st := [.ref r16]) 11 C (ct_X11_lawOf y21) dX11_mile_31 (by decide) t17 g991 g993 g26 g146 g994 hd_X11_lawOf rfl ⟨Nat.le_of_ble_eq_true rfl, Nat.le_of_ble_eq_true rfl⟩ ⟨Nat.le_of_ble_eq_true rfl, Nat.le_of_ble_eq_true rfl⟩ rfl (Nat.le_of_ble_eq_true rfl) ?_
      obtain ⟨t23, hf⟩ := ck_e hf
      obtain ⟨r26, h24, y25, hf⟩ := cb_e hf
      refine e_callVi (pc := 34) (st := []) 0 C (ct_X0_go y25) dX11_mile_34 (by decide) t23 g995 g996 g997 g151 g998 hd_X0_go rfl ⟨Nat.le_of_ble_eq_true rfl, Nat.le_of_ble_eq_true rfl⟩ ⟨Nat.le_of_ble_eq_true rfl, Nat.le_of_ble_eq_true rfl⟩ rfl (Nat.le_of_ble_eq_true rfl) ?_
      obtain rfl := so_e hf
      exact e_iret (pc := 37) C hr dX11_mile_37 (Nat.le_of_ble_eq_true rfl) (Nat.le_of_ble_eq_true rfl)
theorem dX11_pull_0 : decode cX11_pull 0 = .ok (.aload_n 0, 1) := by decide +kernel
theorem dX11_pull_1 : decode cX11_pull 1 = .ok (.getfield 55, 3) := by decide +kernel
theorem dX11_pull_4 : decode cX11_pull 4 = .ok (.getfield 63, 3) := by decide +kernel
theorem dX11_pull_7 : decode cX11_pull 7 = .ok (.getfield 150, 3) := by decide +kernel
theorem dX11_pull_10 : decode cX11_pull 10 = .ok (.istore_n 2, 1) := by decide +kernel
theorem dX11_pull_11 : decode cX11_pull 11 = .ok (.aload_n 0, 1) := by decide +kernel
theorem dX11_pull_12 : decode cX11_pull 12 = .ok (.invokevirtual 187, 3) := by decide +kernel
theorem dX11_pull_15 : decode cX11_pull 15 = .ok (.ifCond .eq 15, 3) := by decide +kernel
theorem dX11_pull_18 : decode cX11_pull 18 = .ok (.iload_n 1, 1) := by decide +kernel
theorem dX11_pull_19 : decode cX11_pull 19 = .ok (.invokestatic 181, 3) := by decide +kernel
theorem dX11_pull_22 : decode cX11_pull 22 = .ok (.ifCond .eq 8, 3) := by decide +kernel
theorem dX11_pull_25 : decode cX11_pull 25 = .ok (.iload_n 1, 1) := by decide +kernel
theorem dX11_pull_26 : decode cX11_pull 26 = .ok (.iload_n 2, 1) := by decide +kernel
theorem dX11_pull_27 : decode cX11_pull 27 = .ok (.if_icmp .ne 5, 3) := by decide +kernel
theorem dX11_pull_30 : decode cX11_pull 30 = .ok (.iconst (-1), 1) := by decide +kernel
theorem dX11_pull_31 : decode cX11_pull 31 = .ok (.ireturn, 1) := by decide +kernel
theorem dX11_pull_32 : decode cX11_pull 32 = .ok (.aload_n 0, 1) := by decide +kernel
theorem dX11_pull_33 : decode cX11_pull 33 = .ok (.getfield 55, 3) := by decide +kernel
theorem dX11_pull_36 : decode cX11_pull 36 = .ok (.invokevirtual 204, 3) := by decide +kernel
theorem dX11_pull_39 : decode cX11_pull 39 = .ok (.iload_n 1, 1) := by decide +kernel
theorem dX11_pull_40 : decode cX11_pull 40 = .ok (.putfield 150, 3) := by decide +kernel
theorem dX11_pull_43 : decode cX11_pull 43 = .ok (.iload_n 2, 1) := by decide +kernel
theorem dX11_pull_44 : decode cX11_pull 44 = .ok (.ireturn, 1) := by decide +kernel
noncomputable def f_X11_pull (G : GG) (v0 : Nat) (v1 : Int32) (h : AH) : Option (Int32 × AH) :=
ck (m_t h v0 = .inl 11) <|
ob (m_r h v0 5) fun b2 =>
ck (m_t h b2 = .inl 6) <|
ob (m_r h b2 0) fun b4 =>
ck (m_t h b4 = .inl 0) <|
nn (m_i h b4 2) fun x6 =>
cb (f_X11_hasTrain G v0 h) fun r9 h7 =>
if r9 = 0 then (some ((-1 : Int32), h7)) else
cb (f_X11_isHole G v1 h7) fun r13 h11 =>
if r13 = 0 then (some ((-1 : Int32), h11)) else
if v1 = x6 then (some ((-1 : Int32), h11)) else
ck (m_t h11 v0 = .inl 11) <|
ob (m_r h11 v0 5) fun b17 =>
ck (m_t h11 b17 = .inl 6) <|
cb (f_X6_act G b17 h11) fun r21 h19 =>
ck (m_t h19 r21 = .inl 0) <|
nn (m_si h19 r21 2 v1) fun h23 =>
some (x6, h23)
set_option maxHeartbeats 4000000 in
set_option maxRecDepth 100000 in
theorem ct_X11_pull {G : GG} {l : Launch} {v0 : Nat} {v1 : Int32} {h : AH} {y : Int32 × AH} (hf : f_X11_pull G v0 v1 h = some y) : Ct G l yX11_pull cX11_pull 3 (some .int) 3 106 5 42 [.ref v0, .int v1] h (some (.int y.1), y.2) := by
  refine ct_of (by decide) (Nat.le_of_ble_eq_true rfl) ?_
  intro p e s m args below meth c C hm hr hin
  have C : Cx G cX11_pull RX11 p s m args meth c := C
  refine e_lv (lv2 := [(0, .ref v0), (1, .int v1)]) [0, 1] rfl ?_
  unfold f_X11_pull at hf
  refine e_aload_n (pc := 0) C dX11_pull_0 0 rfl rfl ?_
  obtain ⟨t1, hf⟩ := ck_e hf
  refine e_getr (pc := 1) 11 5 C dX11_pull_1 (by decide) (by decide) g578 rfl t1 ?_
  obtain ⟨b2, eb2, hf⟩ := ob_e hf
  refine e_rf eb2 ?_
  obtain ⟨t3, hf⟩ := ck_e hf
  refine e_getrN (pc := 4) 6 0 C dX11_pull_4 (by decide) (by decide) g458 rfl t3 ?_
  obtain ⟨b4, eb4, hf⟩ := ob_e hf
  refine e_rf eb4 ?_
  obtain ⟨t5, hf⟩ := ck_e hf
  refine e_getiN (pc := 7) 0 2 C dX11_pull_7 (by decide) (by decide) g406 rfl t5 ?_
  obtain ⟨x6, ex6, hf⟩ := nn_e hf
  refine e_topi ex6 ?_
  refine e_istore_n (pc := 10) (lv2 := [(2, .int x6), (0, .ref v0), (1, .int v1)]) C hm dX11_pull_10 rfl (by decide) rfl ?_
  refine e_aload_n (pc := 11) C dX11_pull_11 1 rfl rfl ?_
  obtain ⟨r9, h7, y8, hf⟩ := cb_e hf
  refine e_callVi (pc := 12) (st := []) 11 C (ct_X11_hasTrain y8) dX11_pull_12 (by decide) t1 g956 g958 g24 g146 g959 hd_X11_hasTrain rfl ⟨Nat.le_of_ble_eq_true rfl, Nat.le_of_ble_eq_true rfl⟩ ⟨Nat.le_of_ble_eq_true rfl, Nat.le_of_ble_eq_true rfl⟩ rfl (Nat.le_of_ble_eq_true rfl) ?_
  rcases it_e hf with ⟨c10, hf⟩ | ⟨c10, hf⟩
  · refine e_if_eq (pc := 15) (tgt := 30) C dX11_pull_15 (by decide) (fun _ => ?_) (fun q => absurd c10 q)
    refine e_iconst (v := (-1 : Int32)) (pc := 30) C dX11_pull_30 (by decide) ?_
    obtain rfl := so_e hf
    exact e_iret (pc := 31) C hr dX11_pull_31 (Nat.le_of_ble_eq_true rfl) (Nat.le_of_ble_eq_true rfl)
  · refine e_if_eq (pc := 15) (tgt := 30) C dX11_pull_15 (by decide) (fun q => absurd q c10) (fun _ => ?_)
    refine e_iload_n (pc := 18) C dX11_pull_18 2 rfl rfl ?_
    obtain ⟨r13, h11, y12, hf⟩ := cb_e hf
    refine e_callSi (pc := 19) (st := []) C (ct_X11_isHole y12) dX11_pull_19 g948 g949 g146 g950 hd_X11_isHole rfl ⟨Nat.le_of_ble_eq_true rfl, Nat.le_of_ble_eq_true rfl⟩ ⟨Nat.le_of_ble_eq_true rfl, Nat.le_of_ble_eq_true rfl⟩ rfl (Nat.le_of_ble_eq_true rfl) ?_
    rcases it_e hf with ⟨c14, hf⟩ | ⟨c14, hf⟩
    · refine e_if_eq (pc := 22) (tgt := 30) C dX11_pull_22 (by decide) (fun _ => ?_) (fun q => absurd c14 q)
      refine e_iconst (v := (-1 : Int32)) (pc := 30) C dX11_pull_30 (by decide) ?_
      obtain rfl := so_e hf
      exact e_iret (pc := 31) C hr dX11_pull_31 (Nat.le_of_ble_eq_true rfl) (Nat.le_of_ble_eq_true rfl)
    · refine e_if_eq (pc := 22) (tgt := 30) C dX11_pull_22 (by decide) (fun q => absurd q c14) (fun _ => ?_)
      refine e_iload_n (pc := 25) C dX11_pull_25 2 rfl rfl ?_
      refine e_iload_n (pc := 26) C dX11_pull_26 0 rfl rfl ?_
      rcases it_e hf with ⟨c15, hf⟩ | ⟨c15, hf⟩
      · refine e_icmp_ne (pc := 27) (tgt := 32) C dX11_pull_27 (by decide) (fun q => absurd c15 q) (fun _ => ?_)
        refine e_iconst (v := (-1 : Int32)) (pc := 30) C dX11_pull_30 (by decide) ?_
        obtain rfl := so_e hf
        exact e_iret (pc := 31) C hr dX11_pull_31 (Nat.le_of_ble_eq_true rfl) (Nat.le_of_ble_eq_true rfl)
      · refine e_icmp_ne (pc := 27) (tgt := 32) C dX11_pull_27 (by decide) (fun _ => ?_) (fun q => absurd q c15)
        refine e_aload_n (pc := 32) C dX11_pull_32 1 rfl rfl ?_
        obtain ⟨t16, hf⟩ := ck_e hf
        refine e_getr (pc := 33) 11 5 C dX11_pull_33 (by decide) (by decide) g578 rfl t16 ?_
        obtain ⟨b17, eb17, hf⟩ := ob_e hf
        refine e_rf eb17 ?_
        obtain ⟨t18, hf⟩ := ck_e hf
        obtain ⟨r21, h19, y20, hf⟩ := cb_e hf
        refine e_callVi (pc := 36) (st := []) 6 C (ct_X6_act y20) dX11_pull_36 (by decide) t18 g981 g982 g983 g150 g984 hd_X6_act rfl ⟨Nat.le_of_ble_eq_true rfl, Nat.le_of_ble_eq_true rfl⟩ ⟨Nat.le_of_ble_eq_true rfl, Nat.le_of_ble_eq_true rfl⟩ rfl (Nat.le_of_ble_eq_true rfl) ?_
        refine e_iload_n (pc := 39) C dX11_pull_39 2 rfl rfl ?_
        obtain ⟨t22, hf⟩ := ck_e hf
        refine e_putiN (pc := 40) 0 2 C dX11_pull_40 (by decide) (by decide) g406 rfl rfl rfl rfl t22 ?_
        obtain ⟨h23, eh23, hf⟩ := nn_e hf
        refine e_hp eh23 ?_
        have uh23 : m_t h23 = m_t h19 := by rw [eh23]; exact rfl
        refine e_iload_n (pc := 43) C dX11_pull_43 0 rfl rfl ?_
        obtain rfl := so_e hf
        exact e_iret (pc := 44) C hr dX11_pull_44 (Nat.le_of_ble_eq_true rfl) (Nat.le_of_ble_eq_true rfl)
theorem dX11_withKnob_0 : decode cX11_withKnob 0 = .ok (.iload_n 0, 1) := by decide +kernel
theorem dX11_withKnob_1 : decode cX11_withKnob 1 = .ok (.bipush (-4), 2) := by decide +kernel
theorem dX11_withKnob_3 : decode cX11_withKnob 3 = .ok (.iand, 1) := by decide +kernel
theorem dX11_withKnob_4 : decode cX11_withKnob 4 = .ok (.iload_n 1, 1) := by decide +kernel
theorem dX11_withKnob_5 : decode cX11_withKnob 5 = .ok (.ior, 1) := by decide +kernel
theorem dX11_withKnob_6 : decode cX11_withKnob 6 = .ok (.ireturn, 1) := by decide +kernel
noncomputable def f_X11_withKnob (G : GG) (v0 : Int32) (v1 : Int32) (h : AH) : Option (Int32 × AH) :=
some ((v0 &&& (-4 : Int32)) ||| v1, h)
set_option maxHeartbeats 4000000 in
set_option maxRecDepth 100000 in
theorem ct_X11_withKnob {G : GG} {l : Launch} {v0 : Int32} {v1 : Int32} {h : AH} {y : Int32 × AH} (hf : f_X11_withKnob G v0 v1 h = some y) : Ct G l yX11_withKnob cX11_withKnob 2 (some .int) 0 0 0 0 [.int v0, .int v1] h (some (.int y.1), y.2) := by
  refine ct_of (by decide) (Nat.le_of_ble_eq_true rfl) ?_
  intro p e s m args below meth c C hm hr hin
  have C : Cx G cX11_withKnob RX11 p s m args meth c := C
  refine e_lv (lv2 := [(0, .int v0), (1, .int v1)]) [0, 1] rfl ?_
  unfold f_X11_withKnob at hf
  refine e_iload_n (pc := 0) C dX11_withKnob_0 0 rfl rfl ?_
  refine e_bipush (v := (-4 : Int32)) (pc := 1) C dX11_withKnob_1 (by decide) ?_
  refine e_iand (pc := 3) C dX11_withKnob_3 ?_
  refine e_iload_n (pc := 4) C dX11_withKnob_4 1 rfl rfl ?_
  refine e_ior (pc := 5) C dX11_withKnob_5 ?_
  obtain rfl := so_e hf
  exact e_iret (pc := 6) C hr dX11_withKnob_6 (Nat.le_of_ble_eq_true rfl) (Nat.le_of_ble_eq_true rfl)
theorem dX11_turn_0 : decode cX11_turn 0 = .ok (.aload_n 0, 1) := by decide +kernel
theorem dX11_turn_1 : decode cX11_turn 1 = .ok (.getfield 55, 3) := by decide +kernel
theorem dX11_turn_4 : decode cX11_turn 4 = .ok (.getfield 63, 3) := by decide +kernel
theorem dX11_turn_7 : decode cX11_turn 7 = .ok (.getfield 216, 3) := by decide +kernel
theorem dX11_turn_10 : decode cX11_turn 10 = .ok (.iconst 0, 1) := by decide +kernel
theorem dX11_turn_11 : decode cX11_turn 11 = .ok (.invokestatic 219, 3) := by decide +kernel
theorem dX11_turn_14 : decode cX11_turn 14 = .ok (.istore_n 2, 1) := by decide +kernel
theorem dX11_turn_15 : decode cX11_turn 15 = .ok (.aload_n 0, 1) := by decide +kernel
theorem dX11_turn_16 : decode cX11_turn 16 = .ok (.invokevirtual 187, 3) := by decide +kernel
theorem dX11_turn_19 : decode cX11_turn 19 = .ok (.ifCond .eq 17, 3) := by decide +kernel
theorem dX11_turn_22 : decode cX11_turn 22 = .ok (.iload_n 1, 1) := by decide +kernel
theorem dX11_turn_23 : decode cX11_turn 23 = .ok (.ifCond .lt 13, 3) := by decide +kernel
theorem dX11_turn_26 : decode cX11_turn 26 = .ok (.iload_n 1, 1) := by decide +kernel
theorem dX11_turn_27 : decode cX11_turn 27 = .ok (.iconst 4, 1) := by decide +kernel
theorem dX11_turn_28 : decode cX11_turn 28 = .ok (.if_icmp .ge 8, 3) := by decide +kernel
theorem dX11_turn_31 : decode cX11_turn 31 = .ok (.iload_n 1, 1) := by decide +kernel
theorem dX11_turn_32 : decode cX11_turn 32 = .ok (.iload_n 2, 1) := by decide +kernel
theorem dX11_turn_33 : decode cX11_turn 33 = .ok (.if_icmp .ne 5, 3) := by decide +kernel
theorem dX11_turn_36 : decode cX11_turn 36 = .ok (.iconst (-1), 1) := by decide +kernel
theorem dX11_turn_37 : decode cX11_turn 37 = .ok (.ireturn, 1) := by decide +kernel
theorem dX11_turn_38 : decode cX11_turn 38 = .ok (.aload_n 0, 1) := by decide +kernel
theorem dX11_turn_39 : decode cX11_turn 39 = .ok (.getfield 55, 3) := by decide +kernel
theorem dX11_turn_42 : decode cX11_turn 42 = .ok (.invokevirtual 204, 3) := by decide +kernel
theorem dX11_turn_45 : decode cX11_turn 45 = .ok (.astore_n 3, 1) := by decide +kernel
theorem dX11_turn_46 : decode cX11_turn 46 = .ok (.aload_n 3, 1) := by decide +kernel
theorem dX11_turn_47 : decode cX11_turn 47 = .ok (.aload_n 3, 1) := by decide +kernel
theorem dX11_turn_48 : decode cX11_turn 48 = .ok (.getfield 216, 3) := by decide +kernel
theorem dX11_turn_51 : decode cX11_turn 51 = .ok (.iload_n 1, 1) := by decide +kernel
theorem dX11_turn_52 : decode cX11_turn 52 = .ok (.invokestatic 222, 3) := by decide +kernel
theorem dX11_turn_55 : decode cX11_turn 55 = .ok (.putfield 216, 3) := by decide +kernel
theorem dX11_turn_58 : decode cX11_turn 58 = .ok (.iload_n 2, 1) := by decide +kernel
theorem dX11_turn_59 : decode cX11_turn 59 = .ok (.ireturn, 1) := by decide +kernel
noncomputable def f_X11_turn (G : GG) (v0 : Nat) (v1 : Int32) (h : AH) : Option (Int32 × AH) :=
ck (m_t h v0 = .inl 11) <|
ob (m_r h v0 5) fun b2 =>
ck (m_t h b2 = .inl 6) <|
ob (m_r h b2 0) fun b4 =>
ck (m_t h b4 = .inl 0) <|
cb (f_X11_knobAgo G (m_i h b4 5) (0 : Int32) h) fun r8 h6 =>
ck (m_t h6 v0 = .inl 11) <|
cb (f_X11_hasTrain G v0 h6) fun r12 h10 =>
if r12 = 0 then (some ((-1 : Int32), h10)) else
if v1 < 0 then (some ((-1 : Int32), h10)) else
if (4 : Int32) ≤ v1 then (some ((-1 : Int32), h10)) else
if v1 = r8 then (some ((-1 : Int32), h10)) else
ck (m_t h10 v0 = .inl 11) <|
ob (m_r h10 v0 5) fun b18 =>
ck (m_t h10 b18 = .inl 6) <|
cb (f_X6_act G b18 h10) fun r22 h20 =>
ck (m_t h20 r22 = .inl 0) <|
cb (f_X11_withKnob G (m_i h20 r22 5) v1 h20) fun r26 h24 =>
ck (m_t h24 r22 = .inl 0) <|
nn (m_si h24 r22 5 r26) fun h28 =>
some (r8, h28)
set_option maxHeartbeats 4000000 in
set_option maxRecDepth 100000 in
theorem ct_X11_turn {G : GG} {l : Launch} {v0 : Nat} {v1 : Int32} {h : AH} {y : Int32 × AH} (hf : f_X11_turn G v0 v1 h = some y) : Ct G l yX11_turn cX11_turn 4 (some .int) 3 106 5 42 [.ref v0, .int v1] h (some (.int y.1), y.2) := by
  refine ct_of (by decide) (Nat.le_of_ble_eq_true rfl) ?_
  intro p e s m args below meth c C hm hr hin
  have C : Cx G cX11_turn RX11 p s m args meth c := C
  refine e_lv (lv2 := [(0, .ref v0), (1, .int v1)]) [0, 1] rfl ?_
  unfold f_X11_turn at hf
  refine e_aload_n (pc := 0) C dX11_turn_0 0 rfl rfl ?_
  obtain ⟨t1, hf⟩ := ck_e hf
  refine e_getr (pc := 1) 11 5 C dX11_turn_1 (by decide) (by decide) g578 rfl t1 ?_
  obtain ⟨b2, eb2, hf⟩ := ob_e hf
  refine e_rf eb2 ?_
  obtain ⟨t3, hf⟩ := ck_e hf
  refine e_getrN (pc := 4) 6 0 C dX11_turn_4 (by decide) (by decide) g458 rfl t3 ?_
  obtain ⟨b4, eb4, hf⟩ := ob_e hf
  refine e_rf eb4 ?_
  obtain ⟨t5, hf⟩ := ck_e hf
  refine e_getiN (pc := 7) 0 5 C dX11_turn_7 (by decide) (by decide) g420 rfl t5 ?_
  refine e_iconst (v := (0 : Int32)) (pc := 10) C dX11_turn_10 (by decide) ?_
  obtain ⟨r8, h6, y7, hf⟩ := cb_e hf
  refine e_callSi (pc := 11) (st := []) C (ct_X11_knobAgo y7) dX11_turn_11 g1082 g1040 g146 g1041 hd_X11_knobAgo rfl ⟨Nat.le_of_ble_eq_true rfl, Nat.le_of_ble_eq_true rfl⟩ ⟨Nat.le_of_ble_eq_true rfl, Nat.le_of_ble_eq_true rfl⟩ rfl (Nat.le_of_ble_eq_true rfl) ?_
  refine e_istore_n (pc := 14) (lv2 := [(2, .int r8), (0, .ref v0), (1, .int v1)]) C hm dX11_turn_14 rfl (by decide) rfl ?_
  refine e_aload_n (pc := 15) C dX11_turn_15 1 rfl rfl ?_
  obtain ⟨t9, hf⟩ := ck_e hf
  obtain ⟨r12, h10, y11, hf⟩ := cb_e hf
  refine e_callVi (pc := 16) (st := []) 11 C (ct_X11_hasTrain y11) dX11_turn_16 (by decide) t9 g956 g958 g24 g146 g959 hd_X11_hasTrain rfl ⟨Nat.le_of_ble_eq_true rfl, Nat.le_of_ble_eq_true rfl⟩ ⟨Nat.le_of_ble_eq_true rfl, Nat.le_of_ble_eq_true rfl⟩ rfl (Nat.le_of_ble_eq_true rfl) ?_
  rcases it_e hf with ⟨c13, hf⟩ | ⟨c13, hf⟩
  · refine e_if_eq (pc := 19) (tgt := 36) C dX11_turn_19 (by decide) (fun _ => ?_) (fun q => absurd c13 q)
    refine e_iconst (v := (-1 : Int32)) (pc := 36) C dX11_turn_36 (by decide) ?_
    obtain rfl := so_e hf
    exact e_iret (pc := 37) C hr dX11_turn_37 (Nat.le_of_ble_eq_true rfl) (Nat.le_of_ble_eq_true rfl)
  · refine e_if_eq (pc := 19) (tgt := 36) C dX11_turn_19 (by decide) (fun q => absurd q c13) (fun _ => ?_)
    refine e_iload_n (pc := 22) C dX11_turn_22 2 rfl rfl ?_
    rcases it_e hf with ⟨c14, hf⟩ | ⟨c14, hf⟩
    · refine e_if_lt (pc := 23) (tgt := 36) C dX11_turn_23 (by decide) (fun _ => ?_) (fun q => absurd c14 q)
      refine e_iconst (v := (-1 : Int32)) (pc := 36) C dX11_turn_36 (by decide) ?_
      obtain rfl := so_e hf
      exact e_iret (pc := 37) C hr dX11_turn_37 (Nat.le_of_ble_eq_true rfl) (Nat.le_of_ble_eq_true rfl)
    · refine e_if_lt (pc := 23) (tgt := 36) C dX11_turn_23 (by decide) (fun q => absurd q c14) (fun _ => ?_)
      refine e_iload_n (pc := 26) C dX11_turn_26 2 rfl rfl ?_
      refine e_iconst (v := (4 : Int32)) (pc := 27) C dX11_turn_27 (by decide) ?_
      rcases it_e hf with ⟨c15, hf⟩ | ⟨c15, hf⟩
      · refine e_icmp_ge (pc := 28) (tgt := 36) C dX11_turn_28 (by decide) (fun _ => ?_) (fun q => absurd c15 q)
        refine e_iconst (v := (-1 : Int32)) (pc := 36) C dX11_turn_36 (by decide) ?_
        obtain rfl := so_e hf
        exact e_iret (pc := 37) C hr dX11_turn_37 (Nat.le_of_ble_eq_true rfl) (Nat.le_of_ble_eq_true rfl)
      · refine e_icmp_ge (pc := 28) (tgt := 36) C dX11_turn_28 (by decide) (fun q => absurd q c15) (fun _ => ?_)
        refine e_iload_n (pc := 31) C dX11_turn_31 2 rfl rfl ?_
        refine e_iload_n (pc := 32) C dX11_turn_32 0 rfl rfl ?_
        rcases it_e hf with ⟨c16, hf⟩ | ⟨c16, hf⟩
        · refine e_icmp_ne (pc := 33) (tgt := 38) C dX11_turn_33 (by decide) (fun q => absurd c16 q) (fun _ => ?_)
          refine e_iconst (v := (-1 : Int32)) (pc := 36) C dX11_turn_36 (by decide) ?_
          obtain rfl := so_e hf
          exact e_iret (pc := 37) C hr dX11_turn_37 (Nat.le_of_ble_eq_true rfl) (Nat.le_of_ble_eq_true rfl)
        · refine e_icmp_ne (pc := 33) (tgt := 38) C dX11_turn_33 (by decide) (fun _ => ?_) (fun q => absurd q c16)
          refine e_aload_n (pc := 38) C dX11_turn_38 1 rfl rfl ?_
          obtain ⟨t17, hf⟩ := ck_e hf
          refine e_getr (pc := 39) 11 5 C dX11_turn_39 (by decide) (by decide) g578 rfl t17 ?_
          obtain ⟨b18, eb18, hf⟩ := ob_e hf
          refine e_rf eb18 ?_
          obtain ⟨t19, hf⟩ := ck_e hf
          obtain ⟨r22, h20, y21, hf⟩ := cb_e hf
          refine e_callVi (pc := 42) (st := []) 6 C (ct_X6_act y21) dX11_turn_42 (by decide) t19 g981 g982 g983 g150 g984 hd_X6_act rfl ⟨Nat.le_of_ble_eq_true rfl, Nat.le_of_ble_eq_true rfl⟩ ⟨Nat.le_of_ble_eq_true rfl, Nat.le_of_ble_eq_true rfl⟩ rfl (Nat.le_of_ble_eq_true rfl) ?_
          refine e_astore_n (pc := 45) (lv2 := [(3, .ref r22), (2, .int r8), (0, .ref v0), (1, .int v1)]) C hm dX11_turn_45 rfl (by decide) rfl ?_
          refine e_aload_n (pc := 46) C dX11_turn_46 0 rfl rfl ?_
          refine e_aload_n (pc := 47) C dX11_turn_47 0 rfl rfl ?_
          obtain ⟨t23, hf⟩ := ck_e hf
          refine e_getiN (pc := 48) 0 5 C dX11_turn_48 (by decide) (by decide) g420 rfl t23 ?_
          refine e_iload_n (pc := 51) C dX11_turn_51 3 rfl rfl ?_
          obtain ⟨r26, h24, y25, hf⟩ := cb_e hf
          refine e_callSi (pc := 52) (st := [.ref r22]) C (ct_X11_withKnob y25) dX11_turn_52 g1083 g1084 g146 g1085 hd_X11_withKnob rfl ⟨Nat.le_of_ble_eq_true rfl, Nat.le_of_ble_eq_true rfl⟩ ⟨Nat.le_of_ble_eq_true rfl, Nat.le_of_ble_eq_true rfl⟩ rfl (Nat.le_of_ble_eq_true rfl) ?_
          obtain ⟨t27, hf⟩ := ck_e hf
          refine e_putiN (pc := 55) 0 5 C dX11_turn_55 (by decide) (by decide) g420 rfl rfl rfl rfl t27 ?_
          obtain ⟨h28, eh28, hf⟩ := nn_e hf
          refine e_hp eh28 ?_
          have uh28 : m_t h28 = m_t h24 := by rw [eh28]; exact rfl
          refine e_iload_n (pc := 58) C dX11_turn_58 1 rfl rfl ?_
          obtain rfl := so_e hf
          exact e_iret (pc := 59) C hr dX11_turn_59 (Nat.le_of_ble_eq_true rfl) (Nat.le_of_ble_eq_true rfl)
theorem dX0_takes_0 : decode cX0_takes 0 = .ok (.iload_n 2, 1) := by decide +kernel
theorem dX0_takes_1 : decode cX0_takes 1 = .ok (.iconst 4, 1) := by decide +kernel
theorem dX0_takes_2 : decode cX0_takes 2 = .ok (.if_icmp .lt 18, 3) := by decide +kernel
theorem dX0_takes_5 : decode cX0_takes 5 = .ok (.aload_n 0, 1) := by decide +kernel
theorem dX0_takes_6 : decode cX0_takes 6 = .ok (.getfield 41, 3) := by decide +kernel
theorem dX0_takes_9 : decode cX0_takes 9 = .ok (.getfield 65, 3) := by decide +kernel
theorem dX0_takes_12 : decode cX0_takes 12 = .ok (.iload_n 1, 1) := by decide +kernel
theorem dX0_takes_13 : decode cX0_takes 13 = .ok (.aaload, 1) := by decide +kernel
theorem dX0_takes_14 : decode cX0_takes 14 = .ok (.getfield 161, 3) := by decide +kernel
theorem dX0_takes_17 : decode cX0_takes 17 = .ok (.ifCond .ne 7, 3) := by decide +kernel
theorem dX0_takes_20 : decode cX0_takes 20 = .ok (.iconst 1, 1) := by decide +kernel
theorem dX0_takes_21 : decode cX0_takes 21 = .ok (.goto 4, 3) := by decide +kernel
theorem dX0_takes_24 : decode cX0_takes 24 = .ok (.iconst 0, 1) := by decide +kernel
theorem dX0_takes_25 : decode cX0_takes 25 = .ok (.ireturn, 1) := by decide +kernel
noncomputable def f_X0_takes (G : GG) (v0 : Nat) (v1 : Int32) (v2 : Int32) (h : AH) : Option (Int32 × AH) :=
if v2 < (4 : Int32) then (some ((1 : Int32), h)) else
ck (m_t h v0 = .inl 0) <|
ob (m_r h v0 0) fun b3 =>
ck (m_t h b3 = .inl 9) <|
ob (m_r h b3 6) fun b5 =>
ck (ixb h b5 (.object RX5) v1 = true) <|
ob (m_r h b5 v1.toNatClampNeg) fun b8 =>
ck (m_t h b8 = .inl 5) <|
if (m_i h b8 6) = 0 then (some ((1 : Int32), h)) else
some ((0 : Int32), h)
set_option maxHeartbeats 4000000 in
set_option maxRecDepth 100000 in
theorem ct_X0_takes {G : GG} {l : Launch} {v0 : Nat} {v1 : Int32} {v2 : Int32} {h : AH} {y : Int32 × AH} (hf : f_X0_takes G v0 v1 v2 h = some y) : Ct G l yX0_takes cX0_takes 3 (some .boolean) 0 0 0 0 [.ref v0, .int v1, .int v2] h (some (.int y.1), y.2) := by
  refine ct_of (by decide) (Nat.le_of_ble_eq_true rfl) ?_
  intro p e s m args below meth c C hm hr hin
  have C : Cx G cX0_takes RX0 p s m args meth c := C
  refine e_lv (lv2 := [(0, .ref v0), (1, .int v1), (2, .int v2)]) [0, 1, 2] rfl ?_
  unfold f_X0_takes at hf
  refine e_iload_n (pc := 0) C dX0_takes_0 2 rfl rfl ?_
  refine e_iconst (v := (4 : Int32)) (pc := 1) C dX0_takes_1 (by decide) ?_
  rcases it_e hf with ⟨c1, hf⟩ | ⟨c1, hf⟩
  · refine e_icmp_lt (pc := 2) (tgt := 20) C dX0_takes_2 (by decide) (fun _ => ?_) (fun q => absurd c1 q)
    refine e_iconst (v := (1 : Int32)) (pc := 20) C dX0_takes_20 (by decide) ?_
    refine e_goto (pc := 21) (tgt := 25) C dX0_takes_21 (by decide) ?_
    obtain rfl := so_e hf
    exact e_zret (pc := 25) (v := (1 : Int32)) C hr (nz_ok (by decide)) dX0_takes_25 (Nat.le_of_ble_eq_true rfl) (Nat.le_of_ble_eq_true rfl)
  · refine e_icmp_lt (pc := 2) (tgt := 20) C dX0_takes_2 (by decide) (fun q => absurd q c1) (fun _ => ?_)
    refine e_aload_n (pc := 5) C dX0_takes_5 0 rfl rfl ?_
    obtain ⟨t2, hf⟩ := ck_e hf
    refine e_getr (pc := 6) 0 0 C dX0_takes_6 (by decide) (by decide) g393 rfl t2 ?_
    obtain ⟨b3, eb3, hf⟩ := ob_e hf
    refine e_rf eb3 ?_
    obtain ⟨t4, hf⟩ := ck_e hf
    refine e_getrN (pc := 9) 9 6 C dX0_takes_9 (by decide) (by decide) g340 rfl t4 ?_
    obtain ⟨b5, eb5, hf⟩ := ob_e hf
    refine e_rf eb5 ?_
    refine e_iload_n (pc := 12) C dX0_takes_12 1 rfl rfl ?_
    obtain ⟨q6, hf⟩ := ck_e hf
    obtain ⟨n7, tn7, in7⟩ := ix_e q6
    refine e_aald (pc := 13) 4 rfl C dX0_takes_13 tn7 in7 ?_
    obtain ⟨b8, eb8, hf⟩ := ob_e hf
    refine e_rf eb8 ?_
    obtain ⟨t9, hf⟩ := ck_e hf
    refine e_getiN (pc := 14) 5 6 C dX0_takes_14 (by decide) (by decide) g296 rfl t9 ?_
    rcases it_e hf with ⟨c10, hf⟩ | ⟨c10, hf⟩
    · refine e_if_ne (pc := 17) (tgt := 24) C dX0_takes_17 (by decide) (fun q => absurd c10 q) (fun _ => ?_)
      refine e_iconst (v := (1 : Int32)) (pc := 20) C dX0_takes_20 (by decide) ?_
      refine e_goto (pc := 21) (tgt := 25) C dX0_takes_21 (by decide) ?_
      obtain rfl := so_e hf
      exact e_zret (pc := 25) (v := (1 : Int32)) C hr (nz_ok (by decide)) dX0_takes_25 (Nat.le_of_ble_eq_true rfl) (Nat.le_of_ble_eq_true rfl)
    · refine e_if_ne (pc := 17) (tgt := 24) C dX0_takes_17 (by decide) (fun _ => ?_) (fun q => absurd q c10)
      refine e_iconst (v := (0 : Int32)) (pc := 24) C dX0_takes_24 (by decide) ?_
      obtain rfl := so_e hf
      exact e_zret (pc := 25) (v := (0 : Int32)) C hr (nz_ok (by decide)) dX0_takes_25 (Nat.le_of_ble_eq_true rfl) (Nat.le_of_ble_eq_true rfl)
theorem dX0_canChange_0 : decode cX0_canChange 0 = .ok (.iload_n 1, 1) := by decide +kernel
theorem dX0_canChange_1 : decode cX0_canChange 1 = .ok (.iload_n 2, 1) := by decide +kernel
theorem dX0_canChange_2 : decode cX0_canChange 2 = .ok (.if_icmp .eq 19, 3) := by decide +kernel
theorem dX0_canChange_5 : decode cX0_canChange 5 = .ok (.aload_n 0, 1) := by decide +kernel
theorem dX0_canChange_6 : decode cX0_canChange 6 = .ok (.iload_n 1, 1) := by decide +kernel
theorem dX0_canChange_7 : decode cX0_canChange 7 = .ok (.invokevirtual 93, 3) := by decide +kernel
theorem dX0_canChange_10 : decode cX0_canChange 10 = .ok (.ifCond .eq 11, 3) := by decide +kernel
theorem dX0_canChange_13 : decode cX0_canChange 13 = .ok (.aload_n 0, 1) := by decide +kernel
theorem dX0_canChange_14 : decode cX0_canChange 14 = .ok (.iload_n 2, 1) := by decide +kernel
theorem dX0_canChange_15 : decode cX0_canChange 15 = .ok (.invokevirtual 93, 3) := by decide +kernel
theorem dX0_canChange_18 : decode cX0_canChange 18 = .ok (.ifCond .ne 5, 3) := by decide +kernel
theorem dX0_canChange_21 : decode cX0_canChange 21 = .ok (.iconst 0, 1) := by decide +kernel
theorem dX0_canChange_22 : decode cX0_canChange 22 = .ok (.ireturn, 1) := by decide +kernel
theorem dX0_canChange_23 : decode cX0_canChange 23 = .ok (.aload_n 0, 1) := by decide +kernel
theorem dX0_canChange_24 : decode cX0_canChange 24 = .ok (.getfield 28, 3) := by decide +kernel
theorem dX0_canChange_27 : decode cX0_canChange 27 = .ok (.iload_n 1, 1) := by decide +kernel
theorem dX0_canChange_28 : decode cX0_canChange 28 = .ok (.iaload, 1) := by decide +kernel
theorem dX0_canChange_29 : decode cX0_canChange 29 = .ok (.iconst (-1), 1) := by decide +kernel
theorem dX0_canChange_30 : decode cX0_canChange 30 = .ok (.if_icmp .ne 13, 3) := by decide +kernel
theorem dX0_canChange_33 : decode cX0_canChange 33 = .ok (.aload_n 0, 1) := by decide +kernel
theorem dX0_canChange_34 : decode cX0_canChange 34 = .ok (.getfield 28, 3) := by decide +kernel
theorem dX0_canChange_37 : decode cX0_canChange 37 = .ok (.iload_n 2, 1) := by decide +kernel
theorem dX0_canChange_38 : decode cX0_canChange 38 = .ok (.iaload, 1) := by decide +kernel
theorem dX0_canChange_39 : decode cX0_canChange 39 = .ok (.iconst (-1), 1) := by decide +kernel
theorem dX0_canChange_40 : decode cX0_canChange 40 = .ok (.if_icmp .eq 7, 3) := by decide +kernel
theorem dX0_canChange_43 : decode cX0_canChange 43 = .ok (.iconst 1, 1) := by decide +kernel
theorem dX0_canChange_44 : decode cX0_canChange 44 = .ok (.goto 4, 3) := by decide +kernel
theorem dX0_canChange_47 : decode cX0_canChange 47 = .ok (.iconst 0, 1) := by decide +kernel
theorem dX0_canChange_48 : decode cX0_canChange 48 = .ok (.istore_n 3, 1) := by decide +kernel
theorem dX0_canChange_49 : decode cX0_canChange 49 = .ok (.iload_n 3, 1) := by decide +kernel
theorem dX0_canChange_50 : decode cX0_canChange 50 = .ok (.ifCond .eq 35, 3) := by decide +kernel
theorem dX0_canChange_53 : decode cX0_canChange 53 = .ok (.aload_n 0, 1) := by decide +kernel
theorem dX0_canChange_54 : decode cX0_canChange 54 = .ok (.iload_n 1, 1) := by decide +kernel
theorem dX0_canChange_55 : decode cX0_canChange 55 = .ok (.aload_n 0, 1) := by decide +kernel
theorem dX0_canChange_56 : decode cX0_canChange 56 = .ok (.getfield 28, 3) := by decide +kernel
theorem dX0_canChange_59 : decode cX0_canChange 59 = .ok (.iload_n 2, 1) := by decide +kernel
theorem dX0_canChange_60 : decode cX0_canChange 60 = .ok (.iaload, 1) := by decide +kernel
theorem dX0_canChange_61 : decode cX0_canChange 61 = .ok (.invokevirtual 171, 3) := by decide +kernel
theorem dX0_canChange_64 : decode cX0_canChange 64 = .ok (.ifCond .eq 21, 3) := by decide +kernel
theorem dX0_canChange_67 : decode cX0_canChange 67 = .ok (.aload_n 0, 1) := by decide +kernel
theorem dX0_canChange_68 : decode cX0_canChange 68 = .ok (.iload_n 2, 1) := by decide +kernel
theorem dX0_canChange_69 : decode cX0_canChange 69 = .ok (.aload_n 0, 1) := by decide +kernel
theorem dX0_canChange_70 : decode cX0_canChange 70 = .ok (.getfield 28, 3) := by decide +kernel
theorem dX0_canChange_73 : decode cX0_canChange 73 = .ok (.iload_n 1, 1) := by decide +kernel
theorem dX0_canChange_74 : decode cX0_canChange 74 = .ok (.iaload, 1) := by decide +kernel
theorem dX0_canChange_75 : decode cX0_canChange 75 = .ok (.invokevirtual 171, 3) := by decide +kernel
theorem dX0_canChange_78 : decode cX0_canChange 78 = .ok (.ifCond .eq 7, 3) := by decide +kernel
theorem dX0_canChange_81 : decode cX0_canChange 81 = .ok (.iconst 1, 1) := by decide +kernel
theorem dX0_canChange_82 : decode cX0_canChange 82 = .ok (.goto 4, 3) := by decide +kernel
theorem dX0_canChange_85 : decode cX0_canChange 85 = .ok (.iconst 0, 1) := by decide +kernel
theorem dX0_canChange_86 : decode cX0_canChange 86 = .ok (.ireturn, 1) := by decide +kernel
noncomputable def f_X0_canChange (G : GG) (v0 : Nat) (v1 : Int32) (v2 : Int32) (h : AH) : Option (Int32 × AH) :=
if v1 = v2 then (some ((0 : Int32), h)) else
ck (m_t h v0 = .inl 0) <|
cb (f_X0_isAboard G v0 v1 h) fun r5 h3 =>
if r5 = 0 then (some ((0 : Int32), h3)) else
ck (m_t h3 v0 = .inl 0) <|
cb (f_X0_isAboard G v0 v2 h3) fun r10 h8 =>
if r10 = 0 then (some ((0 : Int32), h8)) else
ck (m_t h8 v0 = .inl 0) <|
ob (m_r h8 v0 6) fun b13 =>
ck (ixb h8 b13 .int v1 = true) <|
nn (fun (s0_48 : Int32) => (if s0_48 = 0 then (some ((0 : Int32), h8)) else
ob (m_r h8 v0 6) fun b17 =>
ck (ixb h8 b17 .int v2 = true) <|
cb (f_X0_takes G v0 v1 (m_i h8 b17 v2.toNatClampNeg) h8) fun r22 h20 =>
if r22 = 0 then (some ((0 : Int32), h20)) else
ck (m_t h20 v0 = .inl 0) <|
ob (m_r h20 v0 6) fun b25 =>
ck (ixb h20 b25 .int v1 = true) <|
cb (f_X0_takes G v0 v2 (m_i h20 b25 v1.toNatClampNeg) h20) fun r30 h28 =>
if r30 = 0 then (some ((0 : Int32), h28)) else
some ((1 : Int32), h28))) fun j_48 =>
nn (fun (uu_43 : Unit) => (j_48 (1 : Int32))) fun j_43 =>
if (m_i h8 b13 v1.toNatClampNeg) = (-1 : Int32) then (ob (m_r h8 v0 6) fun b33 =>
ck (ixb h8 b33 .int v2 = true) <|
if (m_i h8 b33 v2.toNatClampNeg) = (-1 : Int32) then (j_48 (0 : Int32)) else
j_43 ()) else
j_43 ()
set_option maxHeartbeats 4000000 in
set_option maxRecDepth 100000 in
theorem ct_X0_canChange {G : GG} {l : Launch} {v0 : Nat} {v1 : Int32} {v2 : Int32} {h : AH} {y : Int32 × AH} (hf : f_X0_canChange G v0 v1 v2 h = some y) : Ct G l yX0_canChange cX0_canChange 4 (some .boolean) 2 42 0 0 [.ref v0, .int v1, .int v2] h (some (.int y.1), y.2) := by
  refine ct_of (by decide) (Nat.le_of_ble_eq_true rfl) ?_
  intro p e s m args below meth c C hm hr hin
  have C : Cx G cX0_canChange RX0 p s m args meth c := C
  refine e_lv (lv2 := [(0, .ref v0), (1, .int v1), (2, .int v2)]) [0, 1, 2] rfl ?_
  unfold f_X0_canChange at hf
  refine e_iload_n (pc := 0) C dX0_canChange_0 1 rfl rfl ?_
  refine e_iload_n (pc := 1) C dX0_canChange_1 2 rfl rfl ?_
  rcases it_e hf with ⟨c1, hf⟩ | ⟨c1, hf⟩
  · refine e_icmp_eq (pc := 2) (tgt := 21) C dX0_canChange_2 (by decide) (fun _ => ?_) (fun q => absurd c1 q)
    refine e_iconst (v := (0 : Int32)) (pc := 21) C dX0_canChange_21 (by decide) ?_
    obtain rfl := so_e hf
    exact e_zret (pc := 22) (v := (0 : Int32)) C hr (nz_ok (by decide)) dX0_canChange_22 (Nat.le_of_ble_eq_true rfl) (Nat.le_of_ble_eq_true rfl)
  · refine e_icmp_eq (pc := 2) (tgt := 21) C dX0_canChange_2 (by decide) (fun q => absurd q c1) (fun _ => ?_)
    refine e_aload_n (pc := 5) C dX0_canChange_5 0 rfl rfl ?_
    refine e_iload_n (pc := 6) C dX0_canChange_6 1 rfl rfl ?_
    obtain ⟨t2, hf⟩ := ck_e hf
    obtain ⟨r5, h3, y4, hf⟩ := cb_e hf
    refine e_callVi (pc := 7) (st := []) 0 C (ct_X0_isAboard y4) dX0_canChange_7 (by decide) t2 g1063 g909 g910 g151 g911 hd_X0_isAboard rfl ⟨Nat.le_of_ble_eq_true rfl, Nat.le_of_ble_eq_true rfl⟩ ⟨Nat.le_of_ble_eq_true rfl, Nat.le_of_ble_eq_true rfl⟩ rfl (Nat.le_of_ble_eq_true rfl) ?_
    rcases it_e hf with ⟨c6, hf⟩ | ⟨c6, hf⟩
    · refine e_if_eq (pc := 10) (tgt := 21) C dX0_canChange_10 (by decide) (fun _ => ?_) (fun q => absurd c6 q)
      refine e_iconst (v := (0 : Int32)) (pc := 21) C dX0_canChange_21 (by decide) ?_
      obtain rfl := so_e hf
      exact e_zret (pc := 22) (v := (0 : Int32)) C hr (nz_ok (by decide)) dX0_canChange_22 (Nat.le_of_ble_eq_true rfl) (Nat.le_of_ble_eq_true rfl)
    · refine e_if_eq (pc := 10) (tgt := 21) C dX0_canChange_10 (by decide) (fun q => absurd q c6) (fun _ => ?_)
      refine e_aload_n (pc := 13) C dX0_canChange_13 0 rfl rfl ?_
      refine e_iload_n (pc := 14) C dX0_canChange_14 2 rfl rfl ?_
      obtain ⟨t7, hf⟩ := ck_e hf
      obtain ⟨r10, h8, y9, hf⟩ := cb_e hf
      refine e_callVi (pc := 15) (st := []) 0 C (ct_X0_isAboard y9) dX0_canChange_15 (by decide) t7 g1063 g909 g910 g151 g911 hd_X0_isAboard rfl ⟨Nat.le_of_ble_eq_true rfl, Nat.le_of_ble_eq_true rfl⟩ ⟨Nat.le_of_ble_eq_true rfl, Nat.le_of_ble_eq_true rfl⟩ rfl (Nat.le_of_ble_eq_true rfl) ?_
      rcases it_e hf with ⟨c11, hf⟩ | ⟨c11, hf⟩
      · refine e_if_ne (pc := 18) (tgt := 23) C dX0_canChange_18 (by decide) (fun q => absurd c11 q) (fun _ => ?_)
        refine e_iconst (v := (0 : Int32)) (pc := 21) C dX0_canChange_21 (by decide) ?_
        obtain rfl := so_e hf
        exact e_zret (pc := 22) (v := (0 : Int32)) C hr (nz_ok (by decide)) dX0_canChange_22 (Nat.le_of_ble_eq_true rfl) (Nat.le_of_ble_eq_true rfl)
      · refine e_if_ne (pc := 18) (tgt := 23) C dX0_canChange_18 (by decide) (fun _ => ?_) (fun q => absurd q c11)
        refine e_aload_n (pc := 23) C dX0_canChange_23 0 rfl rfl ?_
        obtain ⟨t12, hf⟩ := ck_e hf
        refine e_getr (pc := 24) 0 6 C dX0_canChange_24 (by decide) (by decide) g421 rfl t12 ?_
        obtain ⟨b13, eb13, hf⟩ := ob_e hf
        refine e_rf eb13 ?_
        refine e_iload_n (pc := 27) C dX0_canChange_27 1 rfl rfl ?_
        obtain ⟨q14, hf⟩ := ck_e hf
        obtain ⟨n15, tn15, in15⟩ := ix_e q14
        refine e_iald (pc := 28) C dX0_canChange_28 tn15 in15 ?_
        refine e_iconst (v := (-1 : Int32)) (pc := 29) C dX0_canChange_29 (by decide) ?_
        obtain ⟨j_48, ej_48, hf⟩ := nn_e hf
        have W_48 : ∀ (s0_48 : Int32), j_48 s0_48 = some y → EE G p l e ({ frames := 2, cells := 0, slots := 0, locals := 42 } : Room) s m args below meth c (some (.int y.1), y.2) 0 0 48 [(0, .ref v0), (1, .int v1), (2, .int v2)] [.int s0_48] h8 0 0 := by
          intro s0_48 hf
          rw [ej_48] at hf
          refine e_istore_n (pc := 48) (lv2 := [(3, .int s0_48), (0, .ref v0), (1, .int v1), (2, .int v2)]) C hm dX0_canChange_48 rfl (by decide) rfl ?_
          refine e_iload_n (pc := 49) C dX0_canChange_49 0 rfl rfl ?_
          rcases it_e hf with ⟨c16, hf⟩ | ⟨c16, hf⟩
          · refine e_if_eq (pc := 50) (tgt := 85) C dX0_canChange_50 (by decide) (fun _ => ?_) (fun q => absurd c16 q)
            refine e_iconst (v := (0 : Int32)) (pc := 85) C dX0_canChange_85 (by decide) ?_
            obtain rfl := so_e hf
            exact e_zret (pc := 86) (v := (0 : Int32)) C hr (nz_ok (by decide)) dX0_canChange_86 (Nat.le_of_ble_eq_true rfl) (Nat.le_of_ble_eq_true rfl)
          · refine e_if_eq (pc := 50) (tgt := 85) C dX0_canChange_50 (by decide) (fun q => absurd q c16) (fun _ => ?_)
            refine e_aload_n (pc := 53) C dX0_canChange_53 1 rfl rfl ?_
            refine e_iload_n (pc := 54) C dX0_canChange_54 2 rfl rfl ?_
            refine e_aload_n (pc := 55) C dX0_canChange_55 1 rfl rfl ?_
            refine e_getr (pc := 56) 0 6 C dX0_canChange_56 (by decide) (by decide) g421 rfl t12 ?_
            obtain ⟨b17, eb17, hf⟩ := ob_e hf
            refine e_rf eb17 ?_
            refine e_iload_n (pc := 59) C dX0_canChange_59 3 rfl rfl ?_
            obtain ⟨q18, hf⟩ := ck_e hf
            obtain ⟨n19, tn19, in19⟩ := ix_e q18
            refine e_iald (pc := 60) C dX0_canChange_60 tn19 in19 ?_
            obtain ⟨r22, h20, y21, hf⟩ := cb_e hf
            refine e_callVi (pc := 61) (st := []) 0 C (ct_X0_takes y21) dX0_canChange_61 (by decide) t12 g1094 g1095 g1096 g151 g1097 hd_X0_takes rfl ⟨Nat.le_of_ble_eq_true rfl, Nat.le_of_ble_eq_true rfl⟩ ⟨Nat.le_of_ble_eq_true rfl, Nat.le_of_ble_eq_true rfl⟩ rfl (Nat.le_of_ble_eq_true rfl) ?_
            rcases it_e hf with ⟨c23, hf⟩ | ⟨c23, hf⟩
            · refine e_if_eq (pc := 64) (tgt := 85) C dX0_canChange_64 (by decide) (fun _ => ?_) (fun q => absurd c23 q)
              refine e_iconst (v := (0 : Int32)) (pc := 85) C dX0_canChange_85 (by decide) ?_
              obtain rfl := so_e hf
              exact e_zret (pc := 86) (v := (0 : Int32)) C hr (nz_ok (by decide)) dX0_canChange_86 (Nat.le_of_ble_eq_true rfl) (Nat.le_of_ble_eq_true rfl)
            · refine e_if_eq (pc := 64) (tgt := 85) C dX0_canChange_64 (by decide) (fun q => absurd q c23) (fun _ => ?_)
              refine e_aload_n (pc := 67) C dX0_canChange_67 1 rfl rfl ?_
              refine e_iload_n (pc := 68) C dX0_canChange_68 3 rfl rfl ?_
              refine e_aload_n (pc := 69) C dX0_canChange_69 1 rfl rfl ?_
              obtain ⟨t24, hf⟩ := ck_e hf
              refine e_getr (pc := 70) 0 6 C dX0_canChange_70 (by decide) (by decide) g421 rfl t24 ?_
              obtain ⟨b25, eb25, hf⟩ := ob_e hf
              refine e_rf eb25 ?_
              refine e_iload_n (pc := 73) C dX0_canChange_73 2 rfl rfl ?_
              obtain ⟨q26, hf⟩ := ck_e hf
              obtain ⟨n27, tn27, in27⟩ := ix_e q26
              refine e_iald (pc := 74) C dX0_canChange_74 tn27 in27 ?_
              obtain ⟨r30, h28, y29, hf⟩ := cb_e hf
              refine e_callVi (pc := 75) (st := []) 0 C (ct_X0_takes y29) dX0_canChange_75 (by decide) t24 g1094 g1095 g1096 g151 g1097 hd_X0_takes rfl ⟨Nat.le_of_ble_eq_true rfl, Nat.le_of_ble_eq_true rfl⟩ ⟨Nat.le_of_ble_eq_true rfl, Nat.le_of_ble_eq_true rfl⟩ rfl (Nat.le_of_ble_eq_true rfl) ?_
              rcases it_e hf with ⟨c31, hf⟩ | ⟨c31, hf⟩
              · refine e_if_eq (pc := 78) (tgt := 85) C dX0_canChange_78 (by decide) (fun _ => ?_) (fun q => absurd c31 q)
                refine e_iconst (v := (0 : Int32)) (pc := 85) C dX0_canChange_85 (by decide) ?_
                obtain rfl := so_e hf
                exact e_zret (pc := 86) (v := (0 : Int32)) C hr (nz_ok (by decide)) dX0_canChange_86 (Nat.le_of_ble_eq_true rfl) (Nat.le_of_ble_eq_true rfl)
              · refine e_if_eq (pc := 78) (tgt := 85) C dX0_canChange_78 (by decide) (fun q => absurd q c31) (fun _ => ?_)
                refine e_iconst (v := (1 : Int32)) (pc := 81) C dX0_canChange_81 (by decide) ?_
                refine e_goto (pc := 82) (tgt := 86) C dX0_canChange_82 (by decide) ?_
                obtain rfl := so_e hf
                exact e_zret (pc := 86) (v := (1 : Int32)) C hr (nz_ok (by decide)) dX0_canChange_86 (Nat.le_of_ble_eq_true rfl) (Nat.le_of_ble_eq_true rfl)
        obtain ⟨j_43, ej_43, hf⟩ := nn_e hf
        have W_43 : ∀ (uu_43 : Unit), j_43 uu_43 = some y → EE G p l e ({ frames := 2, cells := 0, slots := 0, locals := 42 } : Room) s m args below meth c (some (.int y.1), y.2) 0 0 43 [(0, .ref v0), (1, .int v1), (2, .int v2)] [] h8 0 0 := by
          intro uu_43 hf
          rw [ej_43] at hf
          refine e_iconst (v := (1 : Int32)) (pc := 43) C dX0_canChange_43 (by decide) ?_
          refine e_goto (pc := 44) (tgt := 48) C dX0_canChange_44 (by decide) ?_
          exact W_48 (1 : Int32) hf
        rcases it_e hf with ⟨c32, hf⟩ | ⟨c32, hf⟩
        · refine e_icmp_ne (pc := 30) (tgt := 43) C dX0_canChange_30 (by decide) (fun q => absurd c32 q) (fun _ => ?_)
          refine e_aload_n (pc := 33) C dX0_canChange_33 0 rfl rfl ?_
          refine e_getr (pc := 34) 0 6 C dX0_canChange_34 (by decide) (by decide) g421 rfl t12 ?_
          obtain ⟨b33, eb33, hf⟩ := ob_e hf
          refine e_rf eb33 ?_
          refine e_iload_n (pc := 37) C dX0_canChange_37 2 rfl rfl ?_
          obtain ⟨q34, hf⟩ := ck_e hf
          obtain ⟨n35, tn35, in35⟩ := ix_e q34
          refine e_iald (pc := 38) C dX0_canChange_38 tn35 in35 ?_
          refine e_iconst (v := (-1 : Int32)) (pc := 39) C dX0_canChange_39 (by decide) ?_
          rcases it_e hf with ⟨c36, hf⟩ | ⟨c36, hf⟩
          · refine e_icmp_eq (pc := 40) (tgt := 47) C dX0_canChange_40 (by decide) (fun _ => ?_) (fun q => absurd c36 q)
            refine e_iconst (v := (0 : Int32)) (pc := 47) C dX0_canChange_47 (by decide) ?_
            exact W_48 (0 : Int32) hf
          · refine e_icmp_eq (pc := 40) (tgt := 47) C dX0_canChange_40 (by decide) (fun q => absurd q c36) (fun _ => ?_)
            exact W_43 () hf
        · refine e_icmp_ne (pc := 30) (tgt := 43) C dX0_canChange_30 (by decide) (fun _ => ?_) (fun q => absurd q c32)
          exact W_43 () hf
theorem dX0_change_0 : decode cX0_change 0 = .ok (.aload_n 0, 1) := by decide +kernel
theorem dX0_change_1 : decode cX0_change 1 = .ok (.getfield 28, 3) := by decide +kernel
theorem dX0_change_4 : decode cX0_change 4 = .ok (.iload_n 1, 1) := by decide +kernel
theorem dX0_change_5 : decode cX0_change 5 = .ok (.iaload, 1) := by decide +kernel
theorem dX0_change_6 : decode cX0_change 6 = .ok (.istore_n 3, 1) := by decide +kernel
theorem dX0_change_7 : decode cX0_change 7 = .ok (.aload_n 0, 1) := by decide +kernel
theorem dX0_change_8 : decode cX0_change 8 = .ok (.getfield 28, 3) := by decide +kernel
theorem dX0_change_11 : decode cX0_change 11 = .ok (.iload_n 1, 1) := by decide +kernel
theorem dX0_change_12 : decode cX0_change 12 = .ok (.aload_n 0, 1) := by decide +kernel
theorem dX0_change_13 : decode cX0_change 13 = .ok (.getfield 28, 3) := by decide +kernel
theorem dX0_change_16 : decode cX0_change 16 = .ok (.iload_n 2, 1) := by decide +kernel
theorem dX0_change_17 : decode cX0_change 17 = .ok (.iaload, 1) := by decide +kernel
theorem dX0_change_18 : decode cX0_change 18 = .ok (.iastore, 1) := by decide +kernel
theorem dX0_change_19 : decode cX0_change 19 = .ok (.aload_n 0, 1) := by decide +kernel
theorem dX0_change_20 : decode cX0_change 20 = .ok (.getfield 28, 3) := by decide +kernel
theorem dX0_change_23 : decode cX0_change 23 = .ok (.iload_n 2, 1) := by decide +kernel
theorem dX0_change_24 : decode cX0_change 24 = .ok (.iload_n 3, 1) := by decide +kernel
theorem dX0_change_25 : decode cX0_change 25 = .ok (.iastore, 1) := by decide +kernel
theorem dX0_change_26 : decode cX0_change 26 = .ok (.return_, 1) := by decide +kernel
noncomputable def f_X0_change (G : GG) (v0 : Nat) (v1 : Int32) (v2 : Int32) (h : AH) : Option (AH) :=
ck (m_t h v0 = .inl 0) <|
ob (m_r h v0 6) fun b2 =>
ck (ixb h b2 .int v1 = true) <|
nn (m_i h b2 v1.toNatClampNeg) fun x5 =>
ob (m_r h v0 6) fun b6 =>
ob (m_r h v0 6) fun b7 =>
ck (ixb h b7 .int v2 = true) <|
ck (ixb h b6 .int v1 = true) <|
nn (m_si h b6 v1.toNatClampNeg (m_i h b7 v2.toNatClampNeg)) fun h12 =>
ob (m_r h12 v0 6) fun b13 =>
ck (ixb h12 b13 .int v2 = true) <|
nn (m_si h12 b13 v2.toNatClampNeg x5) fun h16 =>
some h16
set_option maxHeartbeats 4000000 in
set_option maxRecDepth 100000 in
theorem ct_X0_change {G : GG} {l : Launch} {v0 : Nat} {v1 : Int32} {v2 : Int32} {h : AH} {y : AH} (hf : f_X0_change G v0 v1 v2 h = some y) : Ct G l yX0_change cX0_change 4 none 0 0 0 0 [.ref v0, .int v1, .int v2] h (none, y) := by
  refine ct_of (by decide) (Nat.le_of_ble_eq_true rfl) ?_
  intro p e s m args below meth c C hm hr hin
  have C : Cx G cX0_change RX0 p s m args meth c := C
  refine e_lv (lv2 := [(0, .ref v0), (1, .int v1), (2, .int v2)]) [0, 1, 2] rfl ?_
  unfold f_X0_change at hf
  refine e_aload_n (pc := 0) C dX0_change_0 0 rfl rfl ?_
  obtain ⟨t1, hf⟩ := ck_e hf
  refine e_getr (pc := 1) 0 6 C dX0_change_1 (by decide) (by decide) g421 rfl t1 ?_
  obtain ⟨b2, eb2, hf⟩ := ob_e hf
  refine e_rf eb2 ?_
  refine e_iload_n (pc := 4) C dX0_change_4 1 rfl rfl ?_
  obtain ⟨q3, hf⟩ := ck_e hf
  obtain ⟨n4, tn4, in4⟩ := ix_e q3
  refine e_iald (pc := 5) C dX0_change_5 tn4 in4 ?_
  obtain ⟨x5, ex5, hf⟩ := nn_e hf
  refine e_topi ex5 ?_
  refine e_istore_n (pc := 6) (lv2 := [(3, .int x5), (0, .ref v0), (1, .int v1), (2, .int v2)]) C hm dX0_change_6 rfl (by decide) rfl ?_
  refine e_aload_n (pc := 7) C dX0_change_7 1 rfl rfl ?_
  refine e_getr (pc := 8) 0 6 C dX0_change_8 (by decide) (by decide) g421 rfl t1 ?_
  obtain ⟨b6, eb6, hf⟩ := ob_e hf
  refine e_rf eb6 ?_
  refine e_iload_n (pc := 11) C dX0_change_11 2 rfl rfl ?_
  refine e_aload_n (pc := 12) C dX0_change_12 1 rfl rfl ?_
  refine e_getr (pc := 13) 0 6 C dX0_change_13 (by decide) (by decide) g421 rfl t1 ?_
  obtain ⟨b7, eb7, hf⟩ := ob_e hf
  refine e_rf eb7 ?_
  refine e_iload_n (pc := 16) C dX0_change_16 3 rfl rfl ?_
  obtain ⟨q8, hf⟩ := ck_e hf
  obtain ⟨n9, tn9, in9⟩ := ix_e q8
  refine e_iald (pc := 17) C dX0_change_17 tn9 in9 ?_
  obtain ⟨q10, hf⟩ := ck_e hf
  obtain ⟨n11, tn11, in11⟩ := ix_e q10
  refine e_iast (pc := 18) C dX0_change_18 tn11 in11 ?_
  obtain ⟨h12, eh12, hf⟩ := nn_e hf
  refine e_hp eh12 ?_
  have uh12 : m_t h12 = m_t h := by rw [eh12]; exact rfl
  refine e_aload_n (pc := 19) C dX0_change_19 1 rfl rfl ?_
  refine e_getr (pc := 20) 0 6 C dX0_change_20 (by decide) (by decide) g421 rfl (e_mt uh12 t1) ?_
  obtain ⟨b13, eb13, hf⟩ := ob_e hf
  refine e_rf eb13 ?_
  refine e_iload_n (pc := 23) C dX0_change_23 3 rfl rfl ?_
  refine e_iload_n (pc := 24) C dX0_change_24 0 rfl rfl ?_
  obtain ⟨q14, hf⟩ := ck_e hf
  obtain ⟨n15, tn15, in15⟩ := ix_e q14
  refine e_iast (pc := 25) C dX0_change_25 tn15 in15 ?_
  obtain ⟨h16, eh16, hf⟩ := nn_e hf
  refine e_hp eh16 ?_
  have uh16 : m_t h16 = m_t h := by rw [eh16]; exact uh12
  obtain rfl := so_e hf
  exact e_vret (pc := 26) C hr dX0_change_26 (Nat.le_of_ble_eq_true rfl) (Nat.le_of_ble_eq_true rfl)
theorem dX11_seats_0 : decode cX11_seats 0 = .ok (.aload_n 0, 1) := by decide +kernel
theorem dX11_seats_1 : decode cX11_seats 1 = .ok (.getfield 55, 3) := by decide +kernel
theorem dX11_seats_4 : decode cX11_seats 4 = .ok (.getfield 63, 3) := by decide +kernel
theorem dX11_seats_7 : decode cX11_seats 7 = .ok (.iload_n 1, 1) := by decide +kernel
theorem dX11_seats_8 : decode cX11_seats 8 = .ok (.iload_n 2, 1) := by decide +kernel
theorem dX11_seats_9 : decode cX11_seats 9 = .ok (.invokevirtual 225, 3) := by decide +kernel
theorem dX11_seats_12 : decode cX11_seats 12 = .ok (.ifCond .ne 5, 3) := by decide +kernel
theorem dX11_seats_15 : decode cX11_seats 15 = .ok (.iconst 0, 1) := by decide +kernel
theorem dX11_seats_16 : decode cX11_seats 16 = .ok (.ireturn, 1) := by decide +kernel
theorem dX11_seats_17 : decode cX11_seats 17 = .ok (.aload_n 0, 1) := by decide +kernel
theorem dX11_seats_18 : decode cX11_seats 18 = .ok (.getfield 55, 3) := by decide +kernel
theorem dX11_seats_21 : decode cX11_seats 21 = .ok (.invokevirtual 204, 3) := by decide +kernel
theorem dX11_seats_24 : decode cX11_seats 24 = .ok (.iload_n 1, 1) := by decide +kernel
theorem dX11_seats_25 : decode cX11_seats 25 = .ok (.iload_n 2, 1) := by decide +kernel
theorem dX11_seats_26 : decode cX11_seats 26 = .ok (.invokevirtual 229, 3) := by decide +kernel
theorem dX11_seats_29 : decode cX11_seats 29 = .ok (.iconst 1, 1) := by decide +kernel
theorem dX11_seats_30 : decode cX11_seats 30 = .ok (.ireturn, 1) := by decide +kernel
noncomputable def f_X11_seats (G : GG) (v0 : Nat) (v1 : Int32) (v2 : Int32) (h : AH) : Option (Int32 × AH) :=
ck (m_t h v0 = .inl 11) <|
ob (m_r h v0 5) fun b2 =>
ck (m_t h b2 = .inl 6) <|
ob (m_r h b2 0) fun b4 =>
ck (m_t h b4 = .inl 0) <|
cb (f_X0_canChange G b4 v1 v2 h) fun r8 h6 =>
if r8 = 0 then (some ((0 : Int32), h6)) else
ck (m_t h6 v0 = .inl 11) <|
ob (m_r h6 v0 5) fun b11 =>
ck (m_t h6 b11 = .inl 6) <|
cb (f_X6_act G b11 h6) fun r15 h13 =>
ck (m_t h13 r15 = .inl 0) <|
ob (f_X0_change G r15 v1 v2 h13) fun h17 =>
some ((1 : Int32), h17)
set_option maxHeartbeats 4000000 in
set_option maxRecDepth 100000 in
theorem ct_X11_seats {G : GG} {l : Launch} {v0 : Nat} {v1 : Int32} {v2 : Int32} {h : AH} {y : Int32 × AH} (hf : f_X11_seats G v0 v1 v2 h = some y) : Ct G l yX11_seats cX11_seats 3 (some .boolean) 3 106 5 42 [.ref v0, .int v1, .int v2] h (some (.int y.1), y.2) := by
  refine ct_of (by decide) (Nat.le_of_ble_eq_true rfl) ?_
  intro p e s m args below meth c C hm hr hin
  have C : Cx G cX11_seats RX11 p s m args meth c := C
  refine e_lv (lv2 := [(0, .ref v0), (1, .int v1), (2, .int v2)]) [0, 1, 2] rfl ?_
  unfold f_X11_seats at hf
  refine e_aload_n (pc := 0) C dX11_seats_0 0 rfl rfl ?_
  obtain ⟨t1, hf⟩ := ck_e hf
  refine e_getr (pc := 1) 11 5 C dX11_seats_1 (by decide) (by decide) g578 rfl t1 ?_
  obtain ⟨b2, eb2, hf⟩ := ob_e hf
  refine e_rf eb2 ?_
  obtain ⟨t3, hf⟩ := ck_e hf
  refine e_getrN (pc := 4) 6 0 C dX11_seats_4 (by decide) (by decide) g458 rfl t3 ?_
  obtain ⟨b4, eb4, hf⟩ := ob_e hf
  refine e_rf eb4 ?_
  refine e_iload_n (pc := 7) C dX11_seats_7 1 rfl rfl ?_
  refine e_iload_n (pc := 8) C dX11_seats_8 2 rfl rfl ?_
  obtain ⟨t5, hf⟩ := ck_e hf
  obtain ⟨r8, h6, y7, hf⟩ := cb_e hf
  refine e_callVi (pc := 9) (st := []) 0 C (ct_X0_canChange y7) dX11_seats_9 (by decide) t5 g1090 g1091 g1092 g151 g1093 hd_X0_canChange rfl ⟨Nat.le_of_ble_eq_true rfl, Nat.le_of_ble_eq_true rfl⟩ ⟨Nat.le_of_ble_eq_true rfl, Nat.le_of_ble_eq_true rfl⟩ rfl (Nat.le_of_ble_eq_true rfl) ?_
  rcases it_e hf with ⟨c9, hf⟩ | ⟨c9, hf⟩
  · refine e_if_ne (pc := 12) (tgt := 17) C dX11_seats_12 (by decide) (fun q => absurd c9 q) (fun _ => ?_)
    refine e_iconst (v := (0 : Int32)) (pc := 15) C dX11_seats_15 (by decide) ?_
    obtain rfl := so_e hf
    exact e_zret (pc := 16) (v := (0 : Int32)) C hr (nz_ok (by decide)) dX11_seats_16 (Nat.le_of_ble_eq_true rfl) (Nat.le_of_ble_eq_true rfl)
  · refine e_if_ne (pc := 12) (tgt := 17) C dX11_seats_12 (by decide) (fun _ => ?_) (fun q => absurd q c9)
    refine e_aload_n (pc := 17) C dX11_seats_17 0 rfl rfl ?_
    obtain ⟨t10, hf⟩ := ck_e hf
    refine e_getr (pc := 18) 11 5 C dX11_seats_18 (by decide) (by decide) g578 rfl t10 ?_
    obtain ⟨b11, eb11, hf⟩ := ob_e hf
    refine e_rf eb11 ?_
    obtain ⟨t12, hf⟩ := ck_e hf
    obtain ⟨r15, h13, y14, hf⟩ := cb_e hf
    refine e_callVi (pc := 21) (st := []) 6 C (ct_X6_act y14) dX11_seats_21 (by decide) t12 g981 g982 g983 g150 g984 hd_X6_act rfl ⟨Nat.le_of_ble_eq_true rfl, Nat.le_of_ble_eq_true rfl⟩ ⟨Nat.le_of_ble_eq_true rfl, Nat.le_of_ble_eq_true rfl⟩ rfl (Nat.le_of_ble_eq_true rfl) ?_
    refine e_iload_n (pc := 24) C dX11_seats_24 1 rfl rfl ?_
    refine e_iload_n (pc := 25) C dX11_seats_25 2 rfl rfl ?_
    obtain ⟨t16, hf⟩ := ck_e hf
    obtain ⟨h17, y18, hf⟩ := ob_e hf
    refine e_callVv (pc := 26) (st := []) 0 C (ct_X0_change y18) dX11_seats_26 (by decide) t16 g1098 g1099 g1100 g151 g1101 hd_X0_change rfl ⟨Nat.le_of_ble_eq_true rfl, Nat.le_of_ble_eq_true rfl⟩ ⟨Nat.le_of_ble_eq_true rfl, Nat.le_of_ble_eq_true rfl⟩ rfl (Nat.le_of_ble_eq_true rfl) ?_
    refine e_iconst (v := (1 : Int32)) (pc := 29) C dX11_seats_29 (by decide) ?_
    obtain rfl := so_e hf
    exact e_zret (pc := 30) (v := (1 : Int32)) C hr (nz_ok (by decide)) dX11_seats_30 (Nat.le_of_ble_eq_true rfl) (Nat.le_of_ble_eq_true rfl)
theorem dX11_say_0 : decode cX11_say 0 = .ok (.aload_n 0, 1) := by decide +kernel
theorem dX11_say_1 : decode cX11_say 1 = .ok (.getfield 55, 3) := by decide +kernel
theorem dX11_say_4 : decode cX11_say 4 = .ok (.getfield 63, 3) := by decide +kernel
theorem dX11_say_7 : decode cX11_say 7 = .ok (.astore_n 3, 1) := by decide +kernel
theorem dX11_say_8 : decode cX11_say 8 = .ok (.aload_n 3, 1) := by decide +kernel
theorem dX11_say_9 : decode cX11_say 9 = .ok (.getfield 67, 3) := by decide +kernel
theorem dX11_say_12 : decode cX11_say 12 = .ok (.iload_n 1, 1) := by decide +kernel
theorem dX11_say_13 : decode cX11_say 13 = .ok (.invokevirtual 133, 3) := by decide +kernel
theorem dX11_say_16 : decode cX11_say 16 = .ok (.ifCond .eq 15, 3) := by decide +kernel
theorem dX11_say_19 : decode cX11_say 19 = .ok (.iload_n 2, 1) := by decide +kernel
theorem dX11_say_20 : decode cX11_say 20 = .ok (.bipush (-9), 2) := by decide +kernel
theorem dX11_say_22 : decode cX11_say 22 = .ok (.if_icmp .lt 9, 3) := by decide +kernel
theorem dX11_say_25 : decode cX11_say 25 = .ok (.iload_n 2, 1) := by decide +kernel
theorem dX11_say_26 : decode cX11_say 26 = .ok (.bipush 9, 2) := by decide +kernel
theorem dX11_say_28 : decode cX11_say 28 = .ok (.if_icmp .le 6, 3) := by decide +kernel
theorem dX11_say_31 : decode cX11_say 31 = .ok (.bipush (-100), 2) := by decide +kernel
theorem dX11_say_33 : decode cX11_say 33 = .ok (.ireturn, 1) := by decide +kernel
theorem dX11_say_34 : decode cX11_say 34 = .ok (.aload_n 3, 1) := by decide +kernel
theorem dX11_say_35 : decode cX11_say 35 = .ok (.getfield 163, 3) := by decide +kernel
theorem dX11_say_38 : decode cX11_say 38 = .ok (.iload_n 1, 1) := by decide +kernel
theorem dX11_say_39 : decode cX11_say 39 = .ok (.iaload, 1) := by decide +kernel
theorem dX11_say_40 : decode cX11_say 40 = .ok (.istore 4, 2) := by decide +kernel
theorem dX11_say_42 : decode cX11_say 42 = .ok (.iload_n 2, 1) := by decide +kernel
theorem dX11_say_43 : decode cX11_say 43 = .ok (.iload 4, 2) := by decide +kernel
theorem dX11_say_45 : decode cX11_say 45 = .ok (.if_icmp .ne 6, 3) := by decide +kernel
theorem dX11_say_48 : decode cX11_say 48 = .ok (.bipush (-100), 2) := by decide +kernel
theorem dX11_say_50 : decode cX11_say 50 = .ok (.ireturn, 1) := by decide +kernel
theorem dX11_say_51 : decode cX11_say 51 = .ok (.aload_n 0, 1) := by decide +kernel
theorem dX11_say_52 : decode cX11_say 52 = .ok (.getfield 55, 3) := by decide +kernel
theorem dX11_say_55 : decode cX11_say 55 = .ok (.invokevirtual 204, 3) := by decide +kernel
theorem dX11_say_58 : decode cX11_say 58 = .ok (.getfield 163, 3) := by decide +kernel
theorem dX11_say_61 : decode cX11_say 61 = .ok (.iload_n 1, 1) := by decide +kernel
theorem dX11_say_62 : decode cX11_say 62 = .ok (.iload_n 2, 1) := by decide +kernel
theorem dX11_say_63 : decode cX11_say 63 = .ok (.iastore, 1) := by decide +kernel
theorem dX11_say_64 : decode cX11_say 64 = .ok (.iload 4, 2) := by decide +kernel
theorem dX11_say_66 : decode cX11_say 66 = .ok (.ireturn, 1) := by decide +kernel
noncomputable def f_X11_say (G : GG) (v0 : Nat) (v1 : Int32) (v2 : Int32) (h : AH) : Option (Int32 × AH) :=
ck (m_t h v0 = .inl 11) <|
ob (m_r h v0 5) fun b2 =>
ck (m_t h b2 = .inl 6) <|
ob (m_r h b2 0) fun b4 =>
ck (m_t h b4 = .inl 0) <|
ob (m_r h b4 0) fun b6 =>
ck (m_t h b6 = .inl 9) <|
cb (f_X9_hasPerson G b6 v1 h) fun r10 h8 =>
if r10 = 0 then (some ((-100 : Int32), h8)) else
if v2 < (-9 : Int32) then (some ((-100 : Int32), h8)) else
if v2 ≤ (9 : Int32) then (ck (m_t h8 b4 = .inl 0) <|
ob (m_r h8 b4 9) fun b15 =>
ck (ixb h8 b15 .int v1 = true) <|
nn (m_i h8 b15 v1.toNatClampNeg) fun x18 =>
if v2 = x18 then (some ((-100 : Int32), h8)) else
ck (m_t h8 v0 = .inl 11) <|
ob (m_r h8 v0 5) fun b21 =>
ck (m_t h8 b21 = .inl 6) <|
cb (f_X6_act G b21 h8) fun r25 h23 =>
ck (m_t h23 r25 = .inl 0) <|
ob (m_r h23 r25 9) fun b27 =>
ck (ixb h23 b27 .int v1 = true) <|
nn (m_si h23 b27 v1.toNatClampNeg v2) fun h30 =>
some (x18, h30)) else
some ((-100 : Int32), h8)
set_option maxHeartbeats 4000000 in
set_option maxRecDepth 100000 in
theorem ct_X11_say {G : GG} {l : Launch} {v0 : Nat} {v1 : Int32} {v2 : Int32} {h : AH} {y : Int32 × AH} (hf : f_X11_say G v0 v1 v2 h = some y) : Ct G l yX11_say cX11_say 5 (some .int) 3 106 5 42 [.ref v0, .int v1, .int v2] h (some (.int y.1), y.2) := by
  refine ct_of (by decide) (Nat.le_of_ble_eq_true rfl) ?_
  intro p e s m args below meth c C hm hr hin
  have C : Cx G cX11_say RX11 p s m args meth c := C
  refine e_lv (lv2 := [(0, .ref v0), (1, .int v1), (2, .int v2)]) [0, 1, 2] rfl ?_
  unfold f_X11_say at hf
  refine e_aload_n (pc := 0) C dX11_say_0 0 rfl rfl ?_
  obtain ⟨t1, hf⟩ := ck_e hf
  refine e_getr (pc := 1) 11 5 C dX11_say_1 (by decide) (by decide) g578 rfl t1 ?_
  obtain ⟨b2, eb2, hf⟩ := ob_e hf
  refine e_rf eb2 ?_
  obtain ⟨t3, hf⟩ := ck_e hf
  refine e_getrN (pc := 4) 6 0 C dX11_say_4 (by decide) (by decide) g458 rfl t3 ?_
  obtain ⟨b4, eb4, hf⟩ := ob_e hf
  refine e_rf eb4 ?_
  refine e_astore_n (pc := 7) (lv2 := [(3, .ref b4), (0, .ref v0), (1, .int v1), (2, .int v2)]) C hm dX11_say_7 rfl (by decide) rfl ?_
  refine e_aload_n (pc := 8) C dX11_say_8 0 rfl rfl ?_
  obtain ⟨t5, hf⟩ := ck_e hf
  refine e_getrN (pc := 9) 0 0 C dX11_say_9 (by decide) (by decide) g394 rfl t5 ?_
  obtain ⟨b6, eb6, hf⟩ := ob_e hf
  refine e_rf eb6 ?_
  refine e_iload_n (pc := 12) C dX11_say_12 2 rfl rfl ?_
  obtain ⟨t7, hf⟩ := ck_e hf
  obtain ⟨r10, h8, y9, hf⟩ := cb_e hf
  refine e_callVi (pc := 13) (st := []) 9 C (ct_X9_hasPerson y9) dX11_say_13 (by decide) t7 g907 g753 g754 g152 g755 hd_X9_hasPerson rfl ⟨Nat.le_of_ble_eq_true rfl, Nat.le_of_ble_eq_true rfl⟩ ⟨Nat.le_of_ble_eq_true rfl, Nat.le_of_ble_eq_true rfl⟩ rfl (Nat.le_of_ble_eq_true rfl) ?_
  rcases it_e hf with ⟨c11, hf⟩ | ⟨c11, hf⟩
  · refine e_if_eq (pc := 16) (tgt := 31) C dX11_say_16 (by decide) (fun _ => ?_) (fun q => absurd c11 q)
    refine e_bipush (v := (-100 : Int32)) (pc := 31) C dX11_say_31 (by decide) ?_
    obtain rfl := so_e hf
    exact e_iret (pc := 33) C hr dX11_say_33 (Nat.le_of_ble_eq_true rfl) (Nat.le_of_ble_eq_true rfl)
  · refine e_if_eq (pc := 16) (tgt := 31) C dX11_say_16 (by decide) (fun q => absurd q c11) (fun _ => ?_)
    refine e_iload_n (pc := 19) C dX11_say_19 3 rfl rfl ?_
    refine e_bipush (v := (-9 : Int32)) (pc := 20) C dX11_say_20 (by decide) ?_
    rcases it_e hf with ⟨c12, hf⟩ | ⟨c12, hf⟩
    · refine e_icmp_lt (pc := 22) (tgt := 31) C dX11_say_22 (by decide) (fun _ => ?_) (fun q => absurd c12 q)
      refine e_bipush (v := (-100 : Int32)) (pc := 31) C dX11_say_31 (by decide) ?_
      obtain rfl := so_e hf
      exact e_iret (pc := 33) C hr dX11_say_33 (Nat.le_of_ble_eq_true rfl) (Nat.le_of_ble_eq_true rfl)
    · refine e_icmp_lt (pc := 22) (tgt := 31) C dX11_say_22 (by decide) (fun q => absurd q c12) (fun _ => ?_)
      refine e_iload_n (pc := 25) C dX11_say_25 3 rfl rfl ?_
      refine e_bipush (v := (9 : Int32)) (pc := 26) C dX11_say_26 (by decide) ?_
      rcases it_e hf with ⟨c13, hf⟩ | ⟨c13, hf⟩
      · refine e_icmp_le (pc := 28) (tgt := 34) C dX11_say_28 (by decide) (fun _ => ?_) (fun q => absurd c13 q)
        refine e_aload_n (pc := 34) C dX11_say_34 0 rfl rfl ?_
        obtain ⟨t14, hf⟩ := ck_e hf
        refine e_getrN (pc := 35) 0 9 C dX11_say_35 (by decide) (by decide) g431 rfl t14 ?_
        obtain ⟨b15, eb15, hf⟩ := ob_e hf
        refine e_rf eb15 ?_
        refine e_iload_n (pc := 38) C dX11_say_38 2 rfl rfl ?_
        obtain ⟨q16, hf⟩ := ck_e hf
        obtain ⟨n17, tn17, in17⟩ := ix_e q16
        refine e_iald (pc := 39) C dX11_say_39 tn17 in17 ?_
        obtain ⟨x18, ex18, hf⟩ := nn_e hf
        refine e_topi ex18 ?_
        refine e_istore (pc := 40) (lv2 := [(4, .int x18), (3, .ref b4), (0, .ref v0), (1, .int v1), (2, .int v2)]) C hm dX11_say_40 (by decide) rfl ?_
        refine e_iload_n (pc := 42) C dX11_say_42 4 rfl rfl ?_
        refine e_iload (pc := 43) C dX11_say_43 0 rfl ?_
        rcases it_e hf with ⟨c19, hf⟩ | ⟨c19, hf⟩
        · refine e_icmp_ne (pc := 45) (tgt := 51) C dX11_say_45 (by decide) (fun q => absurd c19 q) (fun _ => ?_)
          refine e_bipush (v := (-100 : Int32)) (pc := 48) C dX11_say_48 (by decide) ?_
          obtain rfl := so_e hf
          exact e_iret (pc := 50) C hr dX11_say_50 (Nat.le_of_ble_eq_true rfl) (Nat.le_of_ble_eq_true rfl)
        · refine e_icmp_ne (pc := 45) (tgt := 51) C dX11_say_45 (by decide) (fun _ => ?_) (fun q => absurd q c19)
          refine e_aload_n (pc := 51) C dX11_say_51 2 rfl rfl ?_
          obtain ⟨t20, hf⟩ := ck_e hf
          refine e_getr (pc := 52) 11 5 C dX11_say_52 (by decide) (by decide) g578 rfl t20 ?_
          obtain ⟨b21, eb21, hf⟩ := ob_e hf
          refine e_rf eb21 ?_
          obtain ⟨t22, hf⟩ := ck_e hf
          obtain ⟨r25, h23, y24, hf⟩ := cb_e hf
          refine e_callVi (pc := 55) (st := []) 6 C (ct_X6_act y24) dX11_say_55 (by decide) t22 g981 g982 g983 g150 g984 hd_X6_act rfl ⟨Nat.le_of_ble_eq_true rfl, Nat.le_of_ble_eq_true rfl⟩ ⟨Nat.le_of_ble_eq_true rfl, Nat.le_of_ble_eq_true rfl⟩ rfl (Nat.le_of_ble_eq_true rfl) ?_
          obtain ⟨t26, hf⟩ := ck_e hf
          refine e_getrN (pc := 58) 0 9 C dX11_say_58 (by decide) (by decide) g431 rfl t26 ?_
          obtain ⟨b27, eb27, hf⟩ := ob_e hf
          refine e_rf eb27 ?_
          refine e_iload_n (pc := 61) C dX11_say_61 3 rfl rfl ?_
          refine e_iload_n (pc := 62) C dX11_say_62 4 rfl rfl ?_
          obtain ⟨q28, hf⟩ := ck_e hf
          obtain ⟨n29, tn29, in29⟩ := ix_e q28
          refine e_iast (pc := 63) C dX11_say_63 tn29 in29 ?_
          obtain ⟨h30, eh30, hf⟩ := nn_e hf
          refine e_hp eh30 ?_
          have uh30 : m_t h30 = m_t h23 := by rw [eh30]; exact rfl
          refine e_iload (pc := 64) C dX11_say_64 0 rfl ?_
          obtain rfl := so_e hf
          exact e_iret (pc := 66) C hr dX11_say_66 (Nat.le_of_ble_eq_true rfl) (Nat.le_of_ble_eq_true rfl)
      · refine e_icmp_le (pc := 28) (tgt := 34) C dX11_say_28 (by decide) (fun q => absurd q c13) (fun _ => ?_)
        refine e_bipush (v := (-100 : Int32)) (pc := 31) C dX11_say_31 (by decide) ?_
        obtain rfl := so_e hf
        exact e_iret (pc := 33) C hr dX11_say_33 (Nat.le_of_ble_eq_true rfl) (Nat.le_of_ble_eq_true rfl)
theorem dX6_takeBack_0 : decode cX6_takeBack 0 = .ok (.aload_n 0, 1) := by decide +kernel
theorem dX6_takeBack_1 : decode cX6_takeBack 1 = .ok (.getfield 9, 3) := by decide +kernel
theorem dX6_takeBack_4 : decode cX6_takeBack 4 = .ok (.ifCond .eq 13, 3) := by decide +kernel
theorem dX6_takeBack_7 : decode cX6_takeBack 7 = .ok (.aload_n 0, 1) := by decide +kernel
theorem dX6_takeBack_8 : decode cX6_takeBack 8 = .ok (.getfield 31, 3) := by decide +kernel
theorem dX6_takeBack_11 : decode cX6_takeBack 11 = .ok (.getfield 57, 3) := by decide +kernel
theorem dX6_takeBack_14 : decode cX6_takeBack 14 = .ok (.ifnonnull 5, 3) := by decide +kernel
theorem dX6_takeBack_17 : decode cX6_takeBack 17 = .ok (.iconst 0, 1) := by decide +kernel
theorem dX6_takeBack_18 : decode cX6_takeBack 18 = .ok (.ireturn, 1) := by decide +kernel
theorem dX6_takeBack_19 : decode cX6_takeBack 19 = .ok (.aload_n 0, 1) := by decide +kernel
theorem dX6_takeBack_20 : decode cX6_takeBack 20 = .ok (.aload_n 0, 1) := by decide +kernel
theorem dX6_takeBack_21 : decode cX6_takeBack 21 = .ok (.getfield 31, 3) := by decide +kernel
theorem dX6_takeBack_24 : decode cX6_takeBack 24 = .ok (.getfield 57, 3) := by decide +kernel
theorem dX6_takeBack_27 : decode cX6_takeBack 27 = .ok (.putfield 31, 3) := by decide +kernel
theorem dX6_takeBack_30 : decode cX6_takeBack 30 = .ok (.aload_n 0, 1) := by decide +kernel
theorem dX6_takeBack_31 : decode cX6_takeBack 31 = .ok (.dup, 1) := by decide +kernel
theorem dX6_takeBack_32 : decode cX6_takeBack 32 = .ok (.getfield 9, 3) := by decide +kernel
theorem dX6_takeBack_35 : decode cX6_takeBack 35 = .ok (.iconst 1, 1) := by decide +kernel
theorem dX6_takeBack_36 : decode cX6_takeBack 36 = .ok (.isub, 1) := by decide +kernel
theorem dX6_takeBack_37 : decode cX6_takeBack 37 = .ok (.putfield 9, 3) := by decide +kernel
theorem dX6_takeBack_40 : decode cX6_takeBack 40 = .ok (.iconst 1, 1) := by decide +kernel
theorem dX6_takeBack_41 : decode cX6_takeBack 41 = .ok (.ireturn, 1) := by decide +kernel
noncomputable def f_X6_takeBack (G : GG) (v0 : Nat) (h : AH) : Option (Int32 × AH) :=
ck (m_t h v0 = .inl 6) <|
if (m_i h v0 1) = 0 then (some ((0 : Int32), h)) else
ob (m_r h v0 0) fun b3 =>
ck (m_t h b3 = .inl 0) <|
on (m_r h b3 1) (some ((0 : Int32), h)) fun b5 =>
ob (m_r h v0 0) fun b7 =>
ck (m_t h b7 = .inl 0) <|
nn (m_sr h v0 0 (m_r h b7 1)) fun h9 =>
nn (m_si h9 v0 1 ((m_i h9 v0 1) - (1 : Int32))) fun h10 =>
some ((1 : Int32), h10)
set_option maxHeartbeats 4000000 in
set_option maxRecDepth 100000 in
theorem ct_X6_takeBack {G : GG} {l : Launch} {v0 : Nat} {h : AH} {y : Int32 × AH} (hf : f_X6_takeBack G v0 h = some y) : Ct G l yX6_takeBack cX6_takeBack 1 (some .boolean) 0 0 0 0 [.ref v0] h (some (.int y.1), y.2) := by
  refine ct_of (by decide) (Nat.le_of_ble_eq_true rfl) ?_
  intro p e s m args below meth c C hm hr hin
  have C : Cx G cX6_takeBack RX6 p s m args meth c := C
  refine e_lv (lv2 := [(0, .ref v0)]) [0] rfl ?_
  unfold f_X6_takeBack at hf
  refine e_aload_n (pc := 0) C dX6_takeBack_0 0 rfl rfl ?_
  obtain ⟨t1, hf⟩ := ck_e hf
  refine e_geti (pc := 1) 6 1 C dX6_takeBack_1 (by decide) (by decide) g460 rfl t1 ?_
  rcases it_e hf with ⟨c2, hf⟩ | ⟨c2, hf⟩
  · refine e_if_eq (pc := 4) (tgt := 17) C dX6_takeBack_4 (by decide) (fun _ => ?_) (fun q => absurd c2 q)
    refine e_iconst (v := (0 : Int32)) (pc := 17) C dX6_takeBack_17 (by decide) ?_
    obtain rfl := so_e hf
    exact e_zret (pc := 18) (v := (0 : Int32)) C hr (nz_ok (by decide)) dX6_takeBack_18 (Nat.le_of_ble_eq_true rfl) (Nat.le_of_ble_eq_true rfl)
  · refine e_if_eq (pc := 4) (tgt := 17) C dX6_takeBack_4 (by decide) (fun q => absurd q c2) (fun _ => ?_)
    refine e_aload_n (pc := 7) C dX6_takeBack_7 0 rfl rfl ?_
    refine e_getr (pc := 8) 6 0 C dX6_takeBack_8 (by decide) (by decide) g457 rfl t1 ?_
    obtain ⟨b3, eb3, hf⟩ := ob_e hf
    refine e_rf eb3 ?_
    obtain ⟨t4, hf⟩ := ck_e hf
    refine e_getrN (pc := 11) 0 1 C dX6_takeBack_11 (by decide) (by decide) g401 rfl t4 ?_
    rcases on_e hf with ⟨c6, hf⟩ | ⟨b5, c6, hf⟩
    · refine e_nonnullN (pc := 14) c6 C dX6_takeBack_14 ?_
      refine e_iconst (v := (0 : Int32)) (pc := 17) C dX6_takeBack_17 (by decide) ?_
      obtain rfl := so_e hf
      exact e_zret (pc := 18) (v := (0 : Int32)) C hr (nz_ok (by decide)) dX6_takeBack_18 (Nat.le_of_ble_eq_true rfl) (Nat.le_of_ble_eq_true rfl)
    · refine e_nonnullS (pc := 14) (tgt := 19) c6 C dX6_takeBack_14 (by decide) ?_
      refine e_aload_n (pc := 19) C dX6_takeBack_19 0 rfl rfl ?_
      refine e_aload_n (pc := 20) C dX6_takeBack_20 0 rfl rfl ?_
      refine e_getr (pc := 21) 6 0 C dX6_takeBack_21 (by decide) (by decide) g457 rfl t1 ?_
      obtain ⟨b7, eb7, hf⟩ := ob_e hf
      refine e_rf eb7 ?_
      obtain ⟨t8, hf⟩ := ck_e hf
      refine e_getrN (pc := 24) 0 1 C dX6_takeBack_24 (by decide) (by decide) g401 rfl t8 ?_
      refine e_putr (pc := 27) (x := m_r h b7 1) 6 0 C dX6_takeBack_27 (by decide) (by decide) g457 rfl rfl (by generalize m_r h b7 1 = w; cases w <;> rfl) (by generalize m_r h b7 1 = w; cases w <;> rfl) t1 ?_
      obtain ⟨h9, eh9, hf⟩ := nn_e hf
      refine e_hp eh9 ?_
      have uh9 : m_t h9 = m_t h := by rw [eh9]; exact rfl
      refine e_aload_n (pc := 30) C dX6_takeBack_30 0 rfl rfl ?_
      refine e_dup (pc := 31) C dX6_takeBack_31 rfl ?_
      refine e_geti (pc := 32) 6 1 C dX6_takeBack_32 (by decide) (by decide) g460 rfl (e_mt uh9 t1) ?_
      refine e_iconst (v := (1 : Int32)) (pc := 35) C dX6_takeBack_35 (by decide) ?_
      refine e_isub (pc := 36) C dX6_takeBack_36 ?_
      refine e_puti (pc := 37) 6 1 C dX6_takeBack_37 (by decide) (by decide) g460 rfl rfl rfl rfl (e_mt uh9 t1) ?_
      obtain ⟨h10, eh10, hf⟩ := nn_e hf
      refine e_hp eh10 ?_
      have uh10 : m_t h10 = m_t h := by rw [eh10]; exact uh9
      refine e_iconst (v := (1 : Int32)) (pc := 40) C dX6_takeBack_40 (by decide) ?_
      obtain rfl := so_e hf
      exact e_zret (pc := 41) (v := (1 : Int32)) C hr (nz_ok (by decide)) dX6_takeBack_41 (Nat.le_of_ble_eq_true rfl) (Nat.le_of_ble_eq_true rfl)
theorem dX11_undo_0 : decode cX11_undo 0 = .ok (.aload_n 0, 1) := by decide +kernel
theorem dX11_undo_1 : decode cX11_undo 1 = .ok (.getfield 55, 3) := by decide +kernel
theorem dX11_undo_4 : decode cX11_undo 4 = .ok (.invokevirtual 233, 3) := by decide +kernel
theorem dX11_undo_7 : decode cX11_undo 7 = .ok (.ifCond .eq 13, 3) := by decide +kernel
theorem dX11_undo_10 : decode cX11_undo 10 = .ok (.aload_n 0, 1) := by decide +kernel
theorem dX11_undo_11 : decode cX11_undo 11 = .ok (.getfield 55, 3) := by decide +kernel
theorem dX11_undo_14 : decode cX11_undo 14 = .ok (.getfield 236, 3) := by decide +kernel
theorem dX11_undo_17 : decode cX11_undo 17 = .ok (.goto 5, 3) := by decide +kernel
theorem dX11_undo_20 : decode cX11_undo 20 = .ok (.bipush (-2), 2) := by decide +kernel
theorem dX11_undo_22 : decode cX11_undo 22 = .ok (.ireturn, 1) := by decide +kernel
noncomputable def f_X11_undo (G : GG) (v0 : Nat) (h : AH) : Option (Int32 × AH) :=
ck (m_t h v0 = .inl 11) <|
ob (m_r h v0 5) fun b2 =>
ck (m_t h b2 = .inl 6) <|
cb (f_X6_takeBack G b2 h) fun r6 h4 =>
if r6 = 0 then (some ((-2 : Int32), h4)) else
ck (m_t h4 v0 = .inl 11) <|
ob (m_r h4 v0 5) fun b9 =>
ck (m_t h4 b9 = .inl 6) <|
some (m_i h4 b9 1, h4)
set_option maxHeartbeats 4000000 in
set_option maxRecDepth 100000 in
theorem ct_X11_undo {G : GG} {l : Launch} {v0 : Nat} {h : AH} {y : Int32 × AH} (hf : f_X11_undo G v0 h = some y) : Ct G l yX11_undo cX11_undo 1 (some .int) 1 20 0 0 [.ref v0] h (some (.int y.1), y.2) := by
  refine ct_of (by decide) (Nat.le_of_ble_eq_true rfl) ?_
  intro p e s m args below meth c C hm hr hin
  have C : Cx G cX11_undo RX11 p s m args meth c := C
  refine e_lv (lv2 := [(0, .ref v0)]) [0] rfl ?_
  unfold f_X11_undo at hf
  refine e_aload_n (pc := 0) C dX11_undo_0 0 rfl rfl ?_
  obtain ⟨t1, hf⟩ := ck_e hf
  refine e_getr (pc := 1) 11 5 C dX11_undo_1 (by decide) (by decide) g578 rfl t1 ?_
  obtain ⟨b2, eb2, hf⟩ := ob_e hf
  refine e_rf eb2 ?_
  obtain ⟨t3, hf⟩ := ck_e hf
  obtain ⟨r6, h4, y5, hf⟩ := cb_e hf
  refine e_callVi (pc := 4) (st := []) 6 C (ct_X6_takeBack y5) dX11_undo_4 (by decide) t3 g1110 g1111 g1112 g150 g1113 hd_X6_takeBack rfl ⟨Nat.le_of_ble_eq_true rfl, Nat.le_of_ble_eq_true rfl⟩ ⟨Nat.le_of_ble_eq_true rfl, Nat.le_of_ble_eq_true rfl⟩ rfl (Nat.le_of_ble_eq_true rfl) ?_
  rcases it_e hf with ⟨c7, hf⟩ | ⟨c7, hf⟩
  · refine e_if_eq (pc := 7) (tgt := 20) C dX11_undo_7 (by decide) (fun _ => ?_) (fun q => absurd c7 q)
    refine e_bipush (v := (-2 : Int32)) (pc := 20) C dX11_undo_20 (by decide) ?_
    obtain rfl := so_e hf
    exact e_iret (pc := 22) C hr dX11_undo_22 (Nat.le_of_ble_eq_true rfl) (Nat.le_of_ble_eq_true rfl)
  · refine e_if_eq (pc := 7) (tgt := 20) C dX11_undo_7 (by decide) (fun q => absurd q c7) (fun _ => ?_)
    refine e_aload_n (pc := 10) C dX11_undo_10 0 rfl rfl ?_
    obtain ⟨t8, hf⟩ := ck_e hf
    refine e_getr (pc := 11) 11 5 C dX11_undo_11 (by decide) (by decide) g578 rfl t8 ?_
    obtain ⟨b9, eb9, hf⟩ := ob_e hf
    refine e_rf eb9 ?_
    obtain ⟨t10, hf⟩ := ck_e hf
    refine e_getiN (pc := 14) 6 1 C dX11_undo_14 (by decide) (by decide) g461 rfl t10 ?_
    refine e_goto (pc := 17) (tgt := 22) C dX11_undo_17 (by decide) ?_
    obtain rfl := so_e hf
    exact e_iret (pc := 22) C hr dX11_undo_22 (Nat.le_of_ble_eq_true rfl) (Nat.le_of_ble_eq_true rfl)
theorem dX11_goTrial_0 : decode cX11_goTrial 0 = .ok (.iconst 0, 1) := by decide +kernel
theorem dX11_goTrial_1 : decode cX11_goTrial 1 = .ok (.istore_n 3, 1) := by decide +kernel
theorem dX11_goTrial_2 : decode cX11_goTrial 2 = .ok (.iload_n 3, 1) := by decide +kernel
theorem dX11_goTrial_3 : decode cX11_goTrial 3 = .ok (.iload_n 2, 1) := by decide +kernel
theorem dX11_goTrial_4 : decode cX11_goTrial 4 = .ok (.if_icmp .ge 18, 3) := by decide +kernel
theorem dX11_goTrial_7 : decode cX11_goTrial 7 = .ok (.aload_n 0, 1) := by decide +kernel
theorem dX11_goTrial_8 : decode cX11_goTrial 8 = .ok (.getfield 71, 3) := by decide +kernel
theorem dX11_goTrial_11 : decode cX11_goTrial 11 = .ok (.aload_n 1, 1) := by decide +kernel
theorem dX11_goTrial_12 : decode cX11_goTrial 12 = .ok (.invokevirtual 212, 3) := by decide +kernel
theorem dX11_goTrial_15 : decode cX11_goTrial 15 = .ok (.pop, 1) := by decide +kernel
theorem dX11_goTrial_16 : decode cX11_goTrial 16 = .ok (.iinc 3 1, 3) := by decide +kernel
theorem dX11_goTrial_19 : decode cX11_goTrial 19 = .ok (.goto (-17), 3) := by decide +kernel
theorem dX11_goTrial_22 : decode cX11_goTrial 22 = .ok (.return_, 1) := by decide +kernel
noncomputable def F_X11_goTrial_2 (G : GG) (v0 : Nat) (v1 : Option Nat) (v2 : Int32) (self_2 : Int32 → AH → Option (AH)) (v3 : Int32) (h : AH) : Option (AH) :=
if v2 ≤ v3 then (some h) else
ck (m_t h v0 = .inl 11) <|
ob (m_r h v0 7) fun b3 =>
ck (m_t h b3 = .inl 0) <|
cb (f_X0_go G b3 v1 h) fun r7 h5 =>
nn (v3 + (1 : Int32)) fun x8 =>
self_2 x8 h5
noncomputable def f_X11_goTrial (G : GG) (v0 : Nat) (v1 : Option Nat) (v2 : Int32) (h : AH) : Option (AH) :=
lq1 (F_X11_goTrial_2 G v0 v1 v2 ) bN (0 : Int32) h
set_option maxHeartbeats 4000000 in
set_option maxRecDepth 100000 in
theorem el_X11_goTrial_2 {G : GG} {p : Program} {l : Launch} {e : Env} {s : State} {m : MethodId} {args : Array Value} {below : List Frame} {meth : Method} {c : Code} {y : AH} (C : Cx G cX11_goTrial RX11 p s m args meth c) (hm : c.maxLocals = 4) (hr : meth.sig.returnType = none) (hin : meth.name = yX11_goTrial.name) {v0 : Nat} {v1 : Option Nat} {v2 : Int32}  :
    ∀ (n : Nat) (v3 : Int32) (h : AH), lq1 (F_X11_goTrial_2 G v0 v1 v2) n v3 h = some y → EE G p l e ({ frames := 5, cells := 0, slots := 0, locals := 120 } : Room) s m args below meth c (none, y) 0 0 2 [(0, .ref v0), (1, va_rf v1), (2, .int v2), (3, .int v3)] [] h 0 0 := by
  intro n
  induction n with
  | zero => intro v3 h hf; exact (no_e hf).elim
  | succ n ih_2 =>
    intro v3 h hf
    have hf : F_X11_goTrial_2 G v0 v1 v2 (lq1 (F_X11_goTrial_2 G v0 v1 v2) n) v3 h = some y := hf
    generalize lq1 (F_X11_goTrial_2 G v0 v1 v2) n = self_2 at hf ih_2
    unfold F_X11_goTrial_2 at hf
    refine e_iload_n (pc := 2) C dX11_goTrial_2 3 rfl rfl ?_
    refine e_iload_n (pc := 3) C dX11_goTrial_3 2 rfl rfl ?_
    rcases it_e hf with ⟨c1, hf⟩ | ⟨c1, hf⟩
    · refine e_icmp_ge (pc := 4) (tgt := 22) C dX11_goTrial_4 (by decide) (fun _ => ?_) (fun q => absurd c1 q)
      obtain rfl := so_e hf
      exact e_vret (pc := 22) C hr dX11_goTrial_22 (Nat.le_of_ble_eq_true rfl) (Nat.le_of_ble_eq_true rfl)
    · refine e_icmp_ge (pc := 4) (tgt := 22) C dX11_goTrial_4 (by decide) (fun q => absurd q c1) (fun _ => ?_)
      refine e_aload_n (pc := 7) C dX11_goTrial_7 0 rfl rfl ?_
      obtain ⟨t2, hf⟩ := ck_e hf
      refine e_getr (pc := 8) 11 7 C dX11_goTrial_8 (by decide) (by decide) g580 rfl t2 ?_
      obtain ⟨b3, eb3, hf⟩ := ob_e hf
      refine e_rf eb3 ?_
      refine e_aloado_n (pc := 11) C dX11_goTrial_11 1 rfl rfl ?_
      obtain ⟨t4, hf⟩ := ck_e hf
      obtain ⟨r7, h5, y6, hf⟩ := cb_e hf
      refine e_callVi (pc := 12) (st := []) 0 C (ct_X0_go y6) dX11_goTrial_12 (by decide) t4 g995 g996 g997 g151 g998 hd_X0_go rfl ⟨Nat.le_of_ble_eq_true rfl, Nat.le_of_ble_eq_true rfl⟩ ⟨Nat.le_of_ble_eq_true rfl, Nat.le_of_ble_eq_true rfl⟩ rfl (Nat.le_of_ble_eq_true rfl) ?_
      refine e_pop (pc := 15) C dX11_goTrial_15 rfl ?_
      obtain ⟨x8, ex8, hf⟩ := nn_e hf
      refine e_iinc (pc := 16) (v := x8) (lv2 := [(3, .int x8), (0, .ref v0), (1, va_rf v1), (2, .int v2)]) C hm dX11_goTrial_16 3 rfl (by rw [ex8]; rfl) (by decide) rfl ?_
      refine e_goto (pc := 19) (tgt := 2) C dX11_goTrial_19 (by decide) ?_
      refine e_lv (lv2 := [(0, .ref v0), (1, va_rf v1), (2, .int v2), (3, .int x8)]) [1, 2, 3, 0] rfl ?_
      exact ih_2 x8 h5 hf
set_option maxHeartbeats 4000000 in
set_option maxRecDepth 100000 in
theorem ct_X11_goTrial {G : GG} {l : Launch} {v0 : Nat} {v1 : Option Nat} {v2 : Int32} {h : AH} {y : AH} (hf : f_X11_goTrial G v0 v1 v2 h = some y) : Ct G l yX11_goTrial cX11_goTrial 4 none 5 120 0 0 [.ref v0, va_rf v1, .int v2] h (none, y) := by
  refine ct_of (by decide) (by cases v1 <;> exact Nat.le_of_ble_eq_true rfl) ?_
  intro p e s m args below meth c C hm hr hin
  have C : Cx G cX11_goTrial RX11 p s m args meth c := C
  refine e_lv (lv2 := [(0, .ref v0), (1, va_rf v1), (2, .int v2)]) [0, 1, 2] (by cases v1 <;> rfl) ?_
  unfold f_X11_goTrial at hf
  refine e_iconst (v := (0 : Int32)) (pc := 0) C dX11_goTrial_0 (by decide) ?_
  refine e_istore_n (pc := 1) (lv2 := [(3, .int (0 : Int32)), (0, .ref v0), (1, va_rf v1), (2, .int v2)]) C hm dX11_goTrial_1 rfl (by decide) rfl ?_
  refine e_lv (lv2 := [(0, .ref v0), (1, va_rf v1), (2, .int v2), (3, .int (0 : Int32))]) [1, 2, 3, 0] rfl ?_
  exact el_X11_goTrial_2 C hm hr hin bN (0 : Int32) h hf
theorem dX0_sufferedByAll_0 : decode cX0_sufferedByAll 0 = .ok (.iconst 0, 1) := by decide +kernel
theorem dX0_sufferedByAll_1 : decode cX0_sufferedByAll 1 = .ok (.istore_n 1, 1) := by decide +kernel
theorem dX0_sufferedByAll_2 : decode cX0_sufferedByAll 2 = .ok (.iconst 0, 1) := by decide +kernel
theorem dX0_sufferedByAll_3 : decode cX0_sufferedByAll 3 = .ok (.istore_n 2, 1) := by decide +kernel
theorem dX0_sufferedByAll_4 : decode cX0_sufferedByAll 4 = .ok (.iload_n 2, 1) := by decide +kernel
theorem dX0_sufferedByAll_5 : decode cX0_sufferedByAll 5 = .ok (.aload_n 0, 1) := by decide +kernel
theorem dX0_sufferedByAll_6 : decode cX0_sufferedByAll 6 = .ok (.getfield 41, 3) := by decide +kernel
theorem dX0_sufferedByAll_9 : decode cX0_sufferedByAll 9 = .ok (.getfield 62, 3) := by decide +kernel
theorem dX0_sufferedByAll_12 : decode cX0_sufferedByAll 12 = .ok (.if_icmp .ge 18, 3) := by decide +kernel
theorem dX0_sufferedByAll_15 : decode cX0_sufferedByAll 15 = .ok (.iload_n 1, 1) := by decide +kernel
theorem dX0_sufferedByAll_16 : decode cX0_sufferedByAll 16 = .ok (.aload_n 0, 1) := by decide +kernel
theorem dX0_sufferedByAll_17 : decode cX0_sufferedByAll 17 = .ok (.getfield 35, 3) := by decide +kernel
theorem dX0_sufferedByAll_20 : decode cX0_sufferedByAll 20 = .ok (.iload_n 2, 1) := by decide +kernel
theorem dX0_sufferedByAll_21 : decode cX0_sufferedByAll 21 = .ok (.iaload, 1) := by decide +kernel
theorem dX0_sufferedByAll_22 : decode cX0_sufferedByAll 22 = .ok (.iadd, 1) := by decide +kernel
theorem dX0_sufferedByAll_23 : decode cX0_sufferedByAll 23 = .ok (.istore_n 1, 1) := by decide +kernel
theorem dX0_sufferedByAll_24 : decode cX0_sufferedByAll 24 = .ok (.iinc 2 1, 3) := by decide +kernel
theorem dX0_sufferedByAll_27 : decode cX0_sufferedByAll 27 = .ok (.goto (-23), 3) := by decide +kernel
theorem dX0_sufferedByAll_30 : decode cX0_sufferedByAll 30 = .ok (.iload_n 1, 1) := by decide +kernel
theorem dX0_sufferedByAll_31 : decode cX0_sufferedByAll 31 = .ok (.ireturn, 1) := by decide +kernel
noncomputable def F_X0_sufferedByAll_4 (G : GG) (v0 : Nat) (self_4 : Int32 → Int32 → AH → Option (Int32 × AH)) (v1 : Int32) (v2 : Int32) (h : AH) : Option (Int32 × AH) :=
ck (m_t h v0 = .inl 0) <|
ob (m_r h v0 0) fun b2 =>
ck (m_t h b2 = .inl 9) <|
if (m_i h b2 5) ≤ v2 then (some (v1, h)) else
ob (m_r h v0 8) fun b5 =>
ck (ixb h b5 .int v2 = true) <|
nn (v1 + (m_i h b5 v2.toNatClampNeg)) fun x8 =>
nn (v2 + (1 : Int32)) fun x9 =>
self_4 x8 x9 h
noncomputable def f_X0_sufferedByAll (G : GG) (v0 : Nat) (h : AH) : Option (Int32 × AH) :=
lq2 (F_X0_sufferedByAll_4 G v0 ) bN (0 : Int32) (0 : Int32) h
set_option maxHeartbeats 4000000 in
set_option maxRecDepth 100000 in
theorem el_X0_sufferedByAll_4 {G : GG} {p : Program} {l : Launch} {e : Env} {s : State} {m : MethodId} {args : Array Value} {below : List Frame} {meth : Method} {c : Code} {y : Int32 × AH} (C : Cx G cX0_sufferedByAll RX0 p s m args meth c) (hm : c.maxLocals = 3) (hr : meth.sig.returnType = (some .int)) (hin : meth.name = yX0_sufferedByAll.name) {v0 : Nat}  :
    ∀ (n : Nat) (v1 : Int32) (v2 : Int32) (h : AH), lq2 (F_X0_sufferedByAll_4 G v0) n v1 v2 h = some y → EE G p l e ({ frames := 0, cells := 0, slots := 0, locals := 0 } : Room) s m args below meth c (some (.int y.1), y.2) 0 0 4 [(0, .ref v0), (1, .int v1), (2, .int v2)] [] h 0 0 := by
  intro n
  induction n with
  | zero => intro v1 v2 h hf; exact (no_e hf).elim
  | succ n ih_4 =>
    intro v1 v2 h hf
    have hf : F_X0_sufferedByAll_4 G v0 (lq2 (F_X0_sufferedByAll_4 G v0) n) v1 v2 h = some y := hf
    generalize lq2 (F_X0_sufferedByAll_4 G v0) n = self_4 at hf ih_4
    unfold F_X0_sufferedByAll_4 at hf
    refine e_iload_n (pc := 4) C dX0_sufferedByAll_4 2 rfl rfl ?_
    refine e_aload_n (pc := 5) C dX0_sufferedByAll_5 0 rfl rfl ?_
    obtain ⟨t1, hf⟩ := ck_e hf
    refine e_getr (pc := 6) 0 0 C dX0_sufferedByAll_6 (by decide) (by decide) g393 rfl t1 ?_
    obtain ⟨b2, eb2, hf⟩ := ob_e hf
    refine e_rf eb2 ?_
    obtain ⟨t3, hf⟩ := ck_e hf
    refine e_getiN (pc := 9) 9 5 C dX0_sufferedByAll_9 (by decide) (by decide) g334 rfl t3 ?_
    rcases it_e hf with ⟨c4, hf⟩ | ⟨c4, hf⟩
    · refine e_icmp_ge (pc := 12) (tgt := 30) C dX0_sufferedByAll_12 (by decide) (fun _ => ?_) (fun q => absurd c4 q)
      refine e_iload_n (pc := 30) C dX0_sufferedByAll_30 1 rfl rfl ?_
      obtain rfl := so_e hf
      exact e_iret (pc := 31) C hr dX0_sufferedByAll_31 (Nat.le_of_ble_eq_true rfl) (Nat.le_of_ble_eq_true rfl)
    · refine e_icmp_ge (pc := 12) (tgt := 30) C dX0_sufferedByAll_12 (by decide) (fun q => absurd q c4) (fun _ => ?_)
      refine e_iload_n (pc := 15) C dX0_sufferedByAll_15 1 rfl rfl ?_
      refine e_aload_n (pc := 16) C dX0_sufferedByAll_16 0 rfl rfl ?_
      refine e_getr (pc := 17) 0 8 C dX0_sufferedByAll_17 (by decide) (by decide) g428 rfl t1 ?_
      obtain ⟨b5, eb5, hf⟩ := ob_e hf
      refine e_rf eb5 ?_
      refine e_iload_n (pc := 20) C dX0_sufferedByAll_20 2 rfl rfl ?_
      obtain ⟨q6, hf⟩ := ck_e hf
      obtain ⟨n7, tn7, in7⟩ := ix_e q6
      refine e_iald (pc := 21) C dX0_sufferedByAll_21 tn7 in7 ?_
      refine e_iadd (pc := 22) C dX0_sufferedByAll_22 ?_
      obtain ⟨x8, ex8, hf⟩ := nn_e hf
      refine e_topi ex8 ?_
      refine e_istore_n (pc := 23) (lv2 := [(1, .int x8), (0, .ref v0), (2, .int v2)]) C hm dX0_sufferedByAll_23 rfl (by decide) rfl ?_
      obtain ⟨x9, ex9, hf⟩ := nn_e hf
      refine e_iinc (pc := 24) (v := x9) (lv2 := [(2, .int x9), (1, .int x8), (0, .ref v0)]) C hm dX0_sufferedByAll_24 2 rfl (by rw [ex9]; rfl) (by decide) rfl ?_
      refine e_goto (pc := 27) (tgt := 4) C dX0_sufferedByAll_27 (by decide) ?_
      refine e_lv (lv2 := [(0, .ref v0), (1, .int x8), (2, .int x9)]) [2, 1, 0] rfl ?_
      exact ih_4 x8 x9 h hf
set_option maxHeartbeats 4000000 in
set_option maxRecDepth 100000 in
theorem ct_X0_sufferedByAll {G : GG} {l : Launch} {v0 : Nat} {h : AH} {y : Int32 × AH} (hf : f_X0_sufferedByAll G v0 h = some y) : Ct G l yX0_sufferedByAll cX0_sufferedByAll 3 (some .int) 0 0 0 0 [.ref v0] h (some (.int y.1), y.2) := by
  refine ct_of (by decide) (Nat.le_of_ble_eq_true rfl) ?_
  intro p e s m args below meth c C hm hr hin
  have C : Cx G cX0_sufferedByAll RX0 p s m args meth c := C
  refine e_lv (lv2 := [(0, .ref v0)]) [0] rfl ?_
  unfold f_X0_sufferedByAll at hf
  refine e_iconst (v := (0 : Int32)) (pc := 0) C dX0_sufferedByAll_0 (by decide) ?_
  refine e_istore_n (pc := 1) (lv2 := [(1, .int (0 : Int32)), (0, .ref v0)]) C hm dX0_sufferedByAll_1 rfl (by decide) rfl ?_
  refine e_iconst (v := (0 : Int32)) (pc := 2) C dX0_sufferedByAll_2 (by decide) ?_
  refine e_istore_n (pc := 3) (lv2 := [(2, .int (0 : Int32)), (1, .int (0 : Int32)), (0, .ref v0)]) C hm dX0_sufferedByAll_3 rfl (by decide) rfl ?_
  refine e_lv (lv2 := [(0, .ref v0), (1, .int (0 : Int32)), (2, .int (0 : Int32))]) [2, 1, 0] rfl ?_
  exact el_X0_sufferedByAll_4 C hm hr hin bN (0 : Int32) (0 : Int32) h hf
theorem dX11_ahead_0 : decode cX11_ahead 0 = .ok (.aload_n 0, 1) := by decide +kernel
theorem dX11_ahead_1 : decode cX11_ahead 1 = .ok (.invokevirtual 187, 3) := by decide +kernel
theorem dX11_ahead_4 : decode cX11_ahead 4 = .ok (.ifCond .eq 24, 3) := by decide +kernel
theorem dX11_ahead_7 : decode cX11_ahead 7 = .ok (.iload_n 1, 1) := by decide +kernel
theorem dX11_ahead_8 : decode cX11_ahead 8 = .ok (.ifCond .lt 20, 3) := by decide +kernel
theorem dX11_ahead_11 : decode cX11_ahead 11 = .ok (.iload_n 1, 1) := by decide +kernel
theorem dX11_ahead_12 : decode cX11_ahead 12 = .ok (.aload_n 0, 1) := by decide +kernel
theorem dX11_ahead_13 : decode cX11_ahead 13 = .ok (.invokevirtual 200, 3) := by decide +kernel
theorem dX11_ahead_16 : decode cX11_ahead 16 = .ok (.if_icmp .gt 12, 3) := by decide +kernel
theorem dX11_ahead_19 : decode cX11_ahead 19 = .ok (.iload_n 2, 1) := by decide +kernel
theorem dX11_ahead_20 : decode cX11_ahead 20 = .ok (.ifCond .lt 8, 3) := by decide +kernel
theorem dX11_ahead_23 : decode cX11_ahead 23 = .ok (.iload_n 2, 1) := by decide +kernel
theorem dX11_ahead_24 : decode cX11_ahead 24 = .ok (.iconst 2, 1) := by decide +kernel
theorem dX11_ahead_25 : decode cX11_ahead 25 = .ok (.if_icmp .le 5, 3) := by decide +kernel
theorem dX11_ahead_28 : decode cX11_ahead 28 = .ok (.iconst (-1), 1) := by decide +kernel
theorem dX11_ahead_29 : decode cX11_ahead 29 = .ok (.ireturn, 1) := by decide +kernel
theorem dX11_ahead_30 : decode cX11_ahead 30 = .ok (.aload_n 0, 1) := by decide +kernel
theorem dX11_ahead_31 : decode cX11_ahead 31 = .ok (.getfield 71, 3) := by decide +kernel
theorem dX11_ahead_34 : decode cX11_ahead 34 = .ok (.aload_n 0, 1) := by decide +kernel
theorem dX11_ahead_35 : decode cX11_ahead 35 = .ok (.getfield 55, 3) := by decide +kernel
theorem dX11_ahead_38 : decode cX11_ahead 38 = .ok (.getfield 63, 3) := by decide +kernel
theorem dX11_ahead_41 : decode cX11_ahead 41 = .ok (.invokevirtual 239, 3) := by decide +kernel
theorem dX11_ahead_44 : decode cX11_ahead 44 = .ok (.aload_n 0, 1) := by decide +kernel
theorem dX11_ahead_45 : decode cX11_ahead 45 = .ok (.aload_n 0, 1) := by decide +kernel
theorem dX11_ahead_46 : decode cX11_ahead 46 = .ok (.aload_n 0, 1) := by decide +kernel
theorem dX11_ahead_47 : decode cX11_ahead 47 = .ok (.getfield 55, 3) := by decide +kernel
theorem dX11_ahead_50 : decode cX11_ahead 50 = .ok (.getfield 130, 3) := by decide +kernel
theorem dX11_ahead_53 : decode cX11_ahead 53 = .ok (.invokevirtual 208, 3) := by decide +kernel
theorem dX11_ahead_56 : decode cX11_ahead 56 = .ok (.iload_n 1, 1) := by decide +kernel
theorem dX11_ahead_57 : decode cX11_ahead 57 = .ok (.invokevirtual 242, 3) := by decide +kernel
theorem dX11_ahead_60 : decode cX11_ahead 60 = .ok (.iload_n 2, 1) := by decide +kernel
theorem dX11_ahead_61 : decode cX11_ahead 61 = .ok (.lookupswitch 43 #[(0, 27), (1, 35)], 27) := by decide +kernel
theorem dX11_ahead_88 : decode cX11_ahead 88 = .ok (.aload_n 0, 1) := by decide +kernel
theorem dX11_ahead_89 : decode cX11_ahead 89 = .ok (.getfield 71, 3) := by decide +kernel
theorem dX11_ahead_92 : decode cX11_ahead 92 = .ok (.getfield 150, 3) := by decide +kernel
theorem dX11_ahead_95 : decode cX11_ahead 95 = .ok (.ireturn, 1) := by decide +kernel
theorem dX11_ahead_96 : decode cX11_ahead 96 = .ok (.aload_n 0, 1) := by decide +kernel
theorem dX11_ahead_97 : decode cX11_ahead 97 = .ok (.getfield 71, 3) := by decide +kernel
theorem dX11_ahead_100 : decode cX11_ahead 100 = .ok (.getfield 246, 3) := by decide +kernel
theorem dX11_ahead_103 : decode cX11_ahead 103 = .ok (.ireturn, 1) := by decide +kernel
theorem dX11_ahead_104 : decode cX11_ahead 104 = .ok (.aload_n 0, 1) := by decide +kernel
theorem dX11_ahead_105 : decode cX11_ahead 105 = .ok (.getfield 71, 3) := by decide +kernel
theorem dX11_ahead_108 : decode cX11_ahead 108 = .ok (.invokevirtual 247, 3) := by decide +kernel
theorem dX11_ahead_111 : decode cX11_ahead 111 = .ok (.ireturn, 1) := by decide +kernel
noncomputable def f_X11_ahead (G : GG) (v0 : Nat) (v1 : Int32) (v2 : Int32) (h : AH) : Option (Int32 × AH) :=
ck (m_t h v0 = .inl 11) <|
cb (f_X11_hasTrain G v0 h) fun r4 h2 =>
if r4 = 0 then (some ((-1 : Int32), h2)) else
if v1 < 0 then (some ((-1 : Int32), h2)) else
ck (m_t h2 v0 = .inl 11) <|
cb (f_X11_milesLeft G v0 h2) fun r10 h8 =>
if r10 < v1 then (some ((-1 : Int32), h8)) else
if v2 < 0 then (some ((-1 : Int32), h8)) else
if v2 ≤ (2 : Int32) then (ck (m_t h8 v0 = .inl 11) <|
ob (m_r h8 v0 7) fun b15 =>
ob (m_r h8 v0 5) fun b16 =>
ck (m_t h8 b16 = .inl 6) <|
ob (m_r h8 b16 0) fun b18 =>
ck (m_t h8 b15 = .inl 0) <|
ob (f_X0_copyFrom G b15 b18 h8) fun h20 =>
ck (m_t h20 v0 = .inl 11) <|
ob (m_r h20 v0 5) fun b23 =>
ck (m_t h20 b23 = .inl 6) <|
cb (f_X11_lawOf G v0 (m_i h20 b23 2) h20) fun r27 h25 =>
ck (m_t h25 v0 = .inl 11) <|
ob (f_X11_goTrial G v0 r27 v1 h25) fun h29 =>
if v2 = (0 : Int32) then (ck (m_t h29 v0 = .inl 11) <|
ob (m_r h29 v0 7) fun b33 =>
ck (m_t h29 b33 = .inl 0) <|
some (m_i h29 b33 2, h29)) else
if v2 = (1 : Int32) then (ck (m_t h29 v0 = .inl 11) <|
ob (m_r h29 v0 7) fun b37 =>
ck (m_t h29 b37 = .inl 0) <|
some (m_i h29 b37 3, h29)) else
ck (m_t h29 v0 = .inl 11) <|
ob (m_r h29 v0 7) fun b40 =>
ck (m_t h29 b40 = .inl 0) <|
cb (f_X0_sufferedByAll G b40 h29) fun r44 h42 =>
some (r44, h42)) else
some ((-1 : Int32), h8)
set_option maxHeartbeats 4000000 in
set_option maxRecDepth 100000 in
theorem ct_X11_ahead {G : GG} {l : Launch} {v0 : Nat} {v1 : Int32} {v2 : Int32} {h : AH} {y : Int32 × AH} (hf : f_X11_ahead G v0 v1 v2 h = some y) : Ct G l yX11_ahead cX11_ahead 3 (some .int) 6 143 0 0 [.ref v0, .int v1, .int v2] h (some (.int y.1), y.2) := by
  refine ct_of (by decide) (Nat.le_of_ble_eq_true rfl) ?_
  intro p e s m args below meth c C hm hr hin
  have C : Cx G cX11_ahead RX11 p s m args meth c := C
  refine e_lv (lv2 := [(0, .ref v0), (1, .int v1), (2, .int v2)]) [0, 1, 2] rfl ?_
  unfold f_X11_ahead at hf
  refine e_aload_n (pc := 0) C dX11_ahead_0 0 rfl rfl ?_
  obtain ⟨t1, hf⟩ := ck_e hf
  obtain ⟨r4, h2, y3, hf⟩ := cb_e hf
  refine e_callVi (pc := 1) (st := []) 11 C (ct_X11_hasTrain y3) dX11_ahead_1 (by decide) t1 g956 g958 g24 g146 g959 hd_X11_hasTrain rfl ⟨Nat.le_of_ble_eq_true rfl, Nat.le_of_ble_eq_true rfl⟩ ⟨Nat.le_of_ble_eq_true rfl, Nat.le_of_ble_eq_true rfl⟩ rfl (Nat.le_of_ble_eq_true rfl) ?_
  rcases it_e hf with ⟨c5, hf⟩ | ⟨c5, hf⟩
  · refine e_if_eq (pc := 4) (tgt := 28) C dX11_ahead_4 (by decide) (fun _ => ?_) (fun q => absurd c5 q)
    refine e_iconst (v := (-1 : Int32)) (pc := 28) C dX11_ahead_28 (by decide) ?_
    obtain rfl := so_e hf
    exact e_iret (pc := 29) C hr dX11_ahead_29 (Nat.le_of_ble_eq_true rfl) (Nat.le_of_ble_eq_true rfl)
  · refine e_if_eq (pc := 4) (tgt := 28) C dX11_ahead_4 (by decide) (fun q => absurd q c5) (fun _ => ?_)
    refine e_iload_n (pc := 7) C dX11_ahead_7 1 rfl rfl ?_
    rcases it_e hf with ⟨c6, hf⟩ | ⟨c6, hf⟩
    · refine e_if_lt (pc := 8) (tgt := 28) C dX11_ahead_8 (by decide) (fun _ => ?_) (fun q => absurd c6 q)
      refine e_iconst (v := (-1 : Int32)) (pc := 28) C dX11_ahead_28 (by decide) ?_
      obtain rfl := so_e hf
      exact e_iret (pc := 29) C hr dX11_ahead_29 (Nat.le_of_ble_eq_true rfl) (Nat.le_of_ble_eq_true rfl)
    · refine e_if_lt (pc := 8) (tgt := 28) C dX11_ahead_8 (by decide) (fun q => absurd q c6) (fun _ => ?_)
      refine e_iload_n (pc := 11) C dX11_ahead_11 1 rfl rfl ?_
      refine e_aload_n (pc := 12) C dX11_ahead_12 0 rfl rfl ?_
      obtain ⟨t7, hf⟩ := ck_e hf
      obtain ⟨r10, h8, y9, hf⟩ := cb_e hf
      refine e_callVi (pc := 13) (st := [.int v1]) 11 C (ct_X11_milesLeft y9) dX11_ahead_13 (by decide) t7 g977 g979 g25 g146 g980 hd_X11_milesLeft rfl ⟨Nat.le_of_ble_eq_true rfl, Nat.le_of_ble_eq_true rfl⟩ ⟨Nat.le_of_ble_eq_true rfl, Nat.le_of_ble_eq_true rfl⟩ rfl (Nat.le_of_ble_eq_true rfl) ?_
      rcases it_e hf with ⟨c11, hf⟩ | ⟨c11, hf⟩
      · refine e_icmp_gt (pc := 16) (tgt := 28) C dX11_ahead_16 (by decide) (fun _ => ?_) (fun q => absurd c11 q)
        refine e_iconst (v := (-1 : Int32)) (pc := 28) C dX11_ahead_28 (by decide) ?_
        obtain rfl := so_e hf
        exact e_iret (pc := 29) C hr dX11_ahead_29 (Nat.le_of_ble_eq_true rfl) (Nat.le_of_ble_eq_true rfl)
      · refine e_icmp_gt (pc := 16) (tgt := 28) C dX11_ahead_16 (by decide) (fun q => absurd q c11) (fun _ => ?_)
        refine e_iload_n (pc := 19) C dX11_ahead_19 2 rfl rfl ?_
        rcases it_e hf with ⟨c12, hf⟩ | ⟨c12, hf⟩
        · refine e_if_lt (pc := 20) (tgt := 28) C dX11_ahead_20 (by decide) (fun _ => ?_) (fun q => absurd c12 q)
          refine e_iconst (v := (-1 : Int32)) (pc := 28) C dX11_ahead_28 (by decide) ?_
          obtain rfl := so_e hf
          exact e_iret (pc := 29) C hr dX11_ahead_29 (Nat.le_of_ble_eq_true rfl) (Nat.le_of_ble_eq_true rfl)
        · refine e_if_lt (pc := 20) (tgt := 28) C dX11_ahead_20 (by decide) (fun q => absurd q c12) (fun _ => ?_)
          refine e_iload_n (pc := 23) C dX11_ahead_23 2 rfl rfl ?_
          refine e_iconst (v := (2 : Int32)) (pc := 24) C dX11_ahead_24 (by decide) ?_
          rcases it_e hf with ⟨c13, hf⟩ | ⟨c13, hf⟩
          · refine e_icmp_le (pc := 25) (tgt := 30) C dX11_ahead_25 (by decide) (fun _ => ?_) (fun q => absurd c13 q)
            refine e_aload_n (pc := 30) C dX11_ahead_30 0 rfl rfl ?_
            obtain ⟨t14, hf⟩ := ck_e hf
            refine e_getr (pc := 31) 11 7 C dX11_ahead_31 (by decide) (by decide) g580 rfl t14 ?_
            obtain ⟨b15, eb15, hf⟩ := ob_e hf
            refine e_rf eb15 ?_
            refine e_aload_n (pc := 34) C dX11_ahead_34 0 rfl rfl ?_
            refine e_getr (pc := 35) 11 5 C dX11_ahead_35 (by decide) (by decide) g578 rfl t14 ?_
            obtain ⟨b16, eb16, hf⟩ := ob_e hf
            refine e_rf eb16 ?_
            obtain ⟨t17, hf⟩ := ck_e hf
            refine e_getrN (pc := 38) 6 0 C dX11_ahead_38 (by decide) (by decide) g458 rfl t17 ?_
            obtain ⟨b18, eb18, hf⟩ := ob_e hf
            refine e_rf eb18 ?_
            obtain ⟨t19, hf⟩ := ck_e hf
            obtain ⟨h20, y21, hf⟩ := ob_e hf
            refine e_callVv (pc := 41) (st := []) 0 C (ct_X0_copyFrom y21) dX11_ahead_41 (by decide) t19 g1118 g986 g987 g151 g988 hd_X0_copyFrom rfl ⟨Nat.le_of_ble_eq_true rfl, Nat.le_of_ble_eq_true rfl⟩ ⟨Nat.le_of_ble_eq_true rfl, Nat.le_of_ble_eq_true rfl⟩ rfl (Nat.le_of_ble_eq_true rfl) ?_
            refine e_aload_n (pc := 44) C dX11_ahead_44 0 rfl rfl ?_
            refine e_aload_n (pc := 45) C dX11_ahead_45 0 rfl rfl ?_
            refine e_aload_n (pc := 46) C dX11_ahead_46 0 rfl rfl ?_
            obtain ⟨t22, hf⟩ := ck_e hf
            refine e_getr (pc := 47) 11 5 C dX11_ahead_47 (by decide) (by decide) g578 rfl t22 ?_
            obtain ⟨b23, eb23, hf⟩ := ob_e hf
            refine e_rf eb23 ?_
            obtain ⟨t24, hf⟩ := ck_e hf
            refine e_getiN (pc := 50) 6 2 C dX11_ahead_50 (by decide) (by decide) g463 rfl t24 ?_
            obtain ⟨r27, h25, y26, hf⟩ := cb_e hf
            refine e_callVi (pc := 53) (st := [.ref v0]) 11 C (ct_X11_lawOf y26) dX11_ahead_53 (by decide) t22 g991 g993 g26 g146 g994 hd_X11_lawOf rfl ⟨Nat.le_of_ble_eq_true rfl, Nat.le_of_ble_eq_true rfl⟩ ⟨Nat.le_of_ble_eq_true rfl, Nat.le_of_ble_eq_true rfl⟩ rfl (Nat.le_of_ble_eq_true rfl) ?_
            refine e_iload_n (pc := 56) C dX11_ahead_56 1 rfl rfl ?_
            obtain ⟨t28, hf⟩ := ck_e hf
            obtain ⟨h29, y30, hf⟩ := ob_e hf
            refine e_callVv (pc := 57) (st := []) 11 C (ct_X11_goTrial y30) dX11_ahead_57 (by decide) t28 g1119 g1121 g35 g146 g1122 hd_X11_goTrial rfl ⟨Nat.le_of_ble_eq_true rfl, Nat.le_of_ble_eq_true rfl⟩ ⟨Nat.le_of_ble_eq_true rfl, Nat.le_of_ble_eq_true rfl⟩ rfl (Nat.le_of_ble_eq_true rfl) ?_
            refine e_iload_n (pc := 60) C dX11_ahead_60 2 rfl rfl ?_
            rcases it_e hf with ⟨c31, hf⟩ | ⟨c31, hf⟩
            · refine e_lkK (pc := 61) (tgt := 88) (0 : Int32) c31 C dX11_ahead_61 (by decide) rfl (by decide) ?_
              refine e_aload_n (pc := 88) C dX11_ahead_88 0 rfl rfl ?_
              obtain ⟨t32, hf⟩ := ck_e hf
              refine e_getr (pc := 89) 11 7 C dX11_ahead_89 (by decide) (by decide) g580 rfl t32 ?_
              obtain ⟨b33, eb33, hf⟩ := ob_e hf
              refine e_rf eb33 ?_
              obtain ⟨t34, hf⟩ := ck_e hf
              refine e_getiN (pc := 92) 0 2 C dX11_ahead_92 (by decide) (by decide) g406 rfl t34 ?_
              obtain rfl := so_e hf
              exact e_iret (pc := 95) C hr dX11_ahead_95 (Nat.le_of_ble_eq_true rfl) (Nat.le_of_ble_eq_true rfl)
            rcases it_e hf with ⟨c35, hf⟩ | ⟨c35, hf⟩
            · refine e_lkK (pc := 61) (tgt := 96) (1 : Int32) c35 C dX11_ahead_61 (by decide) rfl (by decide) ?_
              refine e_aload_n (pc := 96) C dX11_ahead_96 0 rfl rfl ?_
              obtain ⟨t36, hf⟩ := ck_e hf
              refine e_getr (pc := 97) 11 7 C dX11_ahead_97 (by decide) (by decide) g580 rfl t36 ?_
              obtain ⟨b37, eb37, hf⟩ := ob_e hf
              refine e_rf eb37 ?_
              obtain ⟨t38, hf⟩ := ck_e hf
              refine e_getiN (pc := 100) 0 3 C dX11_ahead_100 (by decide) (by decide) g411 rfl t38 ?_
              obtain rfl := so_e hf
              exact e_iret (pc := 103) C hr dX11_ahead_103 (Nat.le_of_ble_eq_true rfl) (Nat.le_of_ble_eq_true rfl)
            refine e_lkD (pc := 61) (tgt := 104) C dX11_ahead_61 (by decide) (by intro q hq; simp only [List.mem_cons, List.not_mem_nil, or_false] at hq; rcases hq with rfl | rfl <;> (intro hh; first | exact i_ne 0 (by decide) c31 hh.symm | exact i_ne 1 (by decide) c35 hh.symm)) (by decide) ?_
            refine e_aload_n (pc := 104) C dX11_ahead_104 0 rfl rfl ?_
            obtain ⟨t39, hf⟩ := ck_e hf
            refine e_getr (pc := 105) 11 7 C dX11_ahead_105 (by decide) (by decide) g580 rfl t39 ?_
            obtain ⟨b40, eb40, hf⟩ := ob_e hf
            refine e_rf eb40 ?_
            obtain ⟨t41, hf⟩ := ck_e hf
            obtain ⟨r44, h42, y43, hf⟩ := cb_e hf
            refine e_callVi (pc := 108) (st := []) 0 C (ct_X0_sufferedByAll y43) dX11_ahead_108 (by decide) t41 g1123 g1124 g1125 g151 g1126 hd_X0_sufferedByAll rfl ⟨Nat.le_of_ble_eq_true rfl, Nat.le_of_ble_eq_true rfl⟩ ⟨Nat.le_of_ble_eq_true rfl, Nat.le_of_ble_eq_true rfl⟩ rfl (Nat.le_of_ble_eq_true rfl) ?_
            obtain rfl := so_e hf
            exact e_iret (pc := 111) C hr dX11_ahead_111 (Nat.le_of_ble_eq_true rfl) (Nat.le_of_ble_eq_true rfl)
          · refine e_icmp_le (pc := 25) (tgt := 30) C dX11_ahead_25 (by decide) (fun q => absurd q c13) (fun _ => ?_)
            refine e_iconst (v := (-1 : Int32)) (pc := 28) C dX11_ahead_28 (by decide) ?_
            obtain rfl := so_e hf
            exact e_iret (pc := 29) C hr dX11_ahead_29 (Nat.le_of_ble_eq_true rfl) (Nat.le_of_ble_eq_true rfl)
theorem dX0_sufferingBy_0 : decode cX0_sufferingBy 0 = .ok (.iconst 0, 1) := by decide +kernel
theorem dX0_sufferingBy_1 : decode cX0_sufferingBy 1 = .ok (.istore_n 3, 1) := by decide +kernel
theorem dX0_sufferingBy_2 : decode cX0_sufferingBy 2 = .ok (.iconst 0, 1) := by decide +kernel
theorem dX0_sufferingBy_3 : decode cX0_sufferingBy 3 = .ok (.istore 4, 2) := by decide +kernel
theorem dX0_sufferingBy_5 : decode cX0_sufferingBy 5 = .ok (.iconst 0, 1) := by decide +kernel
theorem dX0_sufferingBy_6 : decode cX0_sufferingBy 6 = .ok (.istore 5, 2) := by decide +kernel
theorem dX0_sufferingBy_8 : decode cX0_sufferingBy 8 = .ok (.iload 5, 2) := by decide +kernel
theorem dX0_sufferingBy_10 : decode cX0_sufferingBy 10 = .ok (.aload_n 0, 1) := by decide +kernel
theorem dX0_sufferingBy_11 : decode cX0_sufferingBy 11 = .ok (.getfield 41, 3) := by decide +kernel
theorem dX0_sufferingBy_14 : decode cX0_sufferingBy 14 = .ok (.getfield 62, 3) := by decide +kernel
theorem dX0_sufferingBy_17 : decode cX0_sufferingBy 17 = .ok (.if_icmp .ge 41, 3) := by decide +kernel
theorem dX0_sufferingBy_20 : decode cX0_sufferingBy 20 = .ok (.aload_n 0, 1) := by decide +kernel
theorem dX0_sufferingBy_21 : decode cX0_sufferingBy 21 = .ok (.iload 5, 2) := by decide +kernel
theorem dX0_sufferingBy_23 : decode cX0_sufferingBy 23 = .ok (.invokevirtual 93, 3) := by decide +kernel
theorem dX0_sufferingBy_26 : decode cX0_sufferingBy 26 = .ok (.ifCond .eq 26, 3) := by decide +kernel
theorem dX0_sufferingBy_29 : decode cX0_sufferingBy 29 = .ok (.aload_n 0, 1) := by decide +kernel
theorem dX0_sufferingBy_30 : decode cX0_sufferingBy 30 = .ok (.iload 5, 2) := by decide +kernel
theorem dX0_sufferingBy_32 : decode cX0_sufferingBy 32 = .ok (.iload_n 1, 1) := by decide +kernel
theorem dX0_sufferingBy_33 : decode cX0_sufferingBy 33 = .ok (.invokevirtual 122, 3) := by decide +kernel
theorem dX0_sufferingBy_36 : decode cX0_sufferingBy 36 = .ok (.istore 6, 2) := by decide +kernel
theorem dX0_sufferingBy_38 : decode cX0_sufferingBy 38 = .ok (.iload_n 3, 1) := by decide +kernel
theorem dX0_sufferingBy_39 : decode cX0_sufferingBy 39 = .ok (.iload 6, 2) := by decide +kernel
theorem dX0_sufferingBy_41 : decode cX0_sufferingBy 41 = .ok (.iadd, 1) := by decide +kernel
theorem dX0_sufferingBy_42 : decode cX0_sufferingBy 42 = .ok (.istore_n 3, 1) := by decide +kernel
theorem dX0_sufferingBy_43 : decode cX0_sufferingBy 43 = .ok (.iload 4, 2) := by decide +kernel
theorem dX0_sufferingBy_45 : decode cX0_sufferingBy 45 = .ok (.iload 6, 2) := by decide +kernel
theorem dX0_sufferingBy_47 : decode cX0_sufferingBy 47 = .ok (.invokestatic 125, 3) := by decide +kernel
theorem dX0_sufferingBy_50 : decode cX0_sufferingBy 50 = .ok (.istore 4, 2) := by decide +kernel
theorem dX0_sufferingBy_52 : decode cX0_sufferingBy 52 = .ok (.iinc 5 1, 3) := by decide +kernel
theorem dX0_sufferingBy_55 : decode cX0_sufferingBy 55 = .ok (.goto (-47), 3) := by decide +kernel
theorem dX0_sufferingBy_58 : decode cX0_sufferingBy 58 = .ok (.iload_n 2, 1) := by decide +kernel
theorem dX0_sufferingBy_59 : decode cX0_sufferingBy 59 = .ok (.ifCond .eq 8, 3) := by decide +kernel
theorem dX0_sufferingBy_62 : decode cX0_sufferingBy 62 = .ok (.iload 4, 2) := by decide +kernel
theorem dX0_sufferingBy_64 : decode cX0_sufferingBy 64 = .ok (.goto 4, 3) := by decide +kernel
theorem dX0_sufferingBy_67 : decode cX0_sufferingBy 67 = .ok (.iload_n 3, 1) := by decide +kernel
theorem dX0_sufferingBy_68 : decode cX0_sufferingBy 68 = .ok (.ireturn, 1) := by decide +kernel
noncomputable def F_X0_sufferingBy_8 (G : GG) (v0 : Nat) (v1 : Int32) (v2 : Int32) (K_58 : Int32 → Int32 → AH → Option (Int32 × AH)) (self_8 : Int32 → Int32 → Int32 → AH → Option (Int32 × AH)) (v3 : Int32) (v4 : Int32) (v5 : Int32) (h : AH) : Option (Int32 × AH) :=
ck (m_t h v0 = .inl 0) <|
ob (m_r h v0 0) fun b2 =>
ck (m_t h b2 = .inl 9) <|
if (m_i h b2 5) ≤ v5 then (K_58 v3 v4 h) else
cb (f_X0_isAboard G v0 v5 h) fun r7 h5 =>
nn (fun (v3_52 : Int32) (v4_52 : Int32) (h_52 : AH) => (nn (v5 + (1 : Int32)) fun x8 =>
self_8 v3_52 v4_52 x8 h_52)) fun j_52 =>
if r7 = 0 then (j_52 v3 v4 h5) else
ck (m_t h5 v0 = .inl 0) <|
cb (f_X0_sufferingOf G v0 v5 v1 h5) fun r13 h11 =>
nn (v3 + r13) fun x14 =>
nn (if v4 < r13 then r13 else v4) fun x15 =>
j_52 x14 x15 h11
noncomputable def f_X0_sufferingBy (G : GG) (v0 : Nat) (v1 : Int32) (v2 : Int32) (h : AH) : Option (Int32 × AH) :=
lq3 (F_X0_sufferingBy_8 G v0 v1 v2 (fun (v3_58 : Int32) (v4_58 : Int32) (h_58 : AH) => (if v2 = 0 then (some (v3_58, h_58)) else
some (v4_58, h_58)))) bN (0 : Int32) (0 : Int32) (0 : Int32) h
set_option maxHeartbeats 4000000 in
set_option maxRecDepth 100000 in
theorem el_X0_sufferingBy_8 {G : GG} {p : Program} {l : Launch} {e : Env} {s : State} {m : MethodId} {args : Array Value} {below : List Frame} {meth : Method} {c : Code} {y : Int32 × AH} (C : Cx G cX0_sufferingBy RX0 p s m args meth c) (hm : c.maxLocals = 7) (hr : meth.sig.returnType = (some .int)) (hin : meth.name = yX0_sufferingBy.name) {v0 : Nat} {v1 : Int32} {v2 : Int32} {K_58 : Int32 → Int32 → AH → Option (Int32 × AH)} (hK_58 : ∀ (u3 : Int32) (u4 : Int32) (h : AH), K_58 u3 u4 h = some y → EE G p l e ({ frames := 4, cells := 0, slots := 0, locals := 89 } : Room) s m args below meth c (some (.int y.1), y.2) 0 0 58 [(2, .int v2), (3, .int u3), (4, .int u4)] [] h 0 0) :
    ∀ (n : Nat) (v3 : Int32) (v4 : Int32) (v5 : Int32) (h : AH), lq3 (F_X0_sufferingBy_8 G v0 v1 v2 K_58) n v3 v4 v5 h = some y → EE G p l e ({ frames := 4, cells := 0, slots := 0, locals := 89 } : Room) s m args below meth c (some (.int y.1), y.2) 0 0 8 [(0, .ref v0), (1, .int v1), (2, .int v2), (3, .int v3), (4, .int v4), (5, .int v5)] [] h 0 0 := by
  intro n
  induction n with
  | zero => intro v3 v4 v5 h hf; exact (no_e hf).elim
  | succ n ih_8 =>
    intro v3 v4 v5 h hf
    have hf : F_X0_sufferingBy_8 G v0 v1 v2 K_58 (lq3 (F_X0_sufferingBy_8 G v0 v1 v2 K_58) n) v3 v4 v5 h = some y := hf
    generalize lq3 (F_X0_sufferingBy_8 G v0 v1 v2 K_58) n = self_8 at hf ih_8
    unfold F_X0_sufferingBy_8 at hf
    refine e_iload (pc := 8) C dX0_sufferingBy_8 5 rfl ?_
    refine e_aload_n (pc := 10) C dX0_sufferingBy_10 0 rfl rfl ?_
    obtain ⟨t1, hf⟩ := ck_e hf
    refine e_getr (pc := 11) 0 0 C dX0_sufferingBy_11 (by decide) (by decide) g393 rfl t1 ?_
    obtain ⟨b2, eb2, hf⟩ := ob_e hf
    refine e_rf eb2 ?_
    obtain ⟨t3, hf⟩ := ck_e hf
    refine e_getiN (pc := 14) 9 5 C dX0_sufferingBy_14 (by decide) (by decide) g334 rfl t3 ?_
    rcases it_e hf with ⟨c4, hf⟩ | ⟨c4, hf⟩
    · refine e_icmp_ge (pc := 17) (tgt := 58) C dX0_sufferingBy_17 (by decide) (fun _ => ?_) (fun q => absurd c4 q)
      refine e_lv (lv2 := [(2, .int v2), (3, .int v3), (4, .int v4)]) [2, 3, 4] rfl ?_
      exact hK_58 v3 v4 h hf
    · refine e_icmp_ge (pc := 17) (tgt := 58) C dX0_sufferingBy_17 (by decide) (fun q => absurd q c4) (fun _ => ?_)
      refine e_aload_n (pc := 20) C dX0_sufferingBy_20 0 rfl rfl ?_
      refine e_iload (pc := 21) C dX0_sufferingBy_21 5 rfl ?_
      obtain ⟨r7, h5, y6, hf⟩ := cb_e hf
      refine e_callVi (pc := 23) (st := []) 0 C (ct_X0_isAboard y6) dX0_sufferingBy_23 (by decide) t1 g1063 g909 g910 g151 g911 hd_X0_isAboard rfl ⟨Nat.le_of_ble_eq_true rfl, Nat.le_of_ble_eq_true rfl⟩ ⟨Nat.le_of_ble_eq_true rfl, Nat.le_of_ble_eq_true rfl⟩ rfl (Nat.le_of_ble_eq_true rfl) ?_
      obtain ⟨j_52, ej_52, hf⟩ := nn_e hf
      have W_52 : ∀ (v3_52 : Int32) (v4_52 : Int32) (h_52 : AH), j_52 v3_52 v4_52 h_52 = some y → EE G p l e ({ frames := 4, cells := 0, slots := 0, locals := 89 } : Room) s m args below meth c (some (.int y.1), y.2) 0 0 52 [(0, .ref v0), (1, .int v1), (2, .int v2), (3, .int v3_52), (4, .int v4_52), (5, .int v5)] [] h_52 0 0 := by
        intro v3_52 v4_52 h_52 hf
        rw [ej_52] at hf
        obtain ⟨x8, ex8, hf⟩ := nn_e hf
        refine e_iinc (pc := 52) (v := x8) (lv2 := [(5, .int x8), (0, .ref v0), (1, .int v1), (2, .int v2), (3, .int v3_52), (4, .int v4_52)]) C hm dX0_sufferingBy_52 5 rfl (by rw [ex8]; rfl) (by decide) rfl ?_
        refine e_goto (pc := 55) (tgt := 8) C dX0_sufferingBy_55 (by decide) ?_
        refine e_lv (lv2 := [(0, .ref v0), (1, .int v1), (2, .int v2), (3, .int v3_52), (4, .int v4_52), (5, .int x8)]) [1, 2, 3, 4, 5, 0] rfl ?_
        exact ih_8 v3_52 v4_52 x8 h_52 hf
      rcases it_e hf with ⟨c9, hf⟩ | ⟨c9, hf⟩
      · refine e_if_eq (pc := 26) (tgt := 52) C dX0_sufferingBy_26 (by decide) (fun _ => ?_) (fun q => absurd c9 q)
        exact W_52 v3 v4 h5 hf
      · refine e_if_eq (pc := 26) (tgt := 52) C dX0_sufferingBy_26 (by decide) (fun q => absurd q c9) (fun _ => ?_)
        refine e_aload_n (pc := 29) C dX0_sufferingBy_29 0 rfl rfl ?_
        refine e_iload (pc := 30) C dX0_sufferingBy_30 5 rfl ?_
        refine e_iload_n (pc := 32) C dX0_sufferingBy_32 1 rfl rfl ?_
        obtain ⟨t10, hf⟩ := ck_e hf
        obtain ⟨r13, h11, y12, hf⟩ := cb_e hf
        refine e_callVi (pc := 33) (st := []) 0 C (ct_X0_sufferingOf y12) dX0_sufferingBy_33 (by decide) t10 g1135 g922 g923 g151 g924 hd_X0_sufferingOf rfl ⟨Nat.le_of_ble_eq_true rfl, Nat.le_of_ble_eq_true rfl⟩ ⟨Nat.le_of_ble_eq_true rfl, Nat.le_of_ble_eq_true rfl⟩ rfl (Nat.le_of_ble_eq_true rfl) ?_
        refine e_istore (pc := 36) (lv2 := [(6, .int r13), (0, .ref v0), (1, .int v1), (2, .int v2), (3, .int v3), (4, .int v4), (5, .int v5)]) C hm dX0_sufferingBy_36 (by decide) rfl ?_
        refine e_iload_n (pc := 38) C dX0_sufferingBy_38 4 rfl rfl ?_
        refine e_iload (pc := 39) C dX0_sufferingBy_39 0 rfl ?_
        refine e_iadd (pc := 41) C dX0_sufferingBy_41 ?_
        obtain ⟨x14, ex14, hf⟩ := nn_e hf
        refine e_topi ex14 ?_
        refine e_istore_n (pc := 42) (lv2 := [(3, .int x14), (6, .int r13), (0, .ref v0), (1, .int v1), (2, .int v2), (4, .int v4), (5, .int v5)]) C hm dX0_sufferingBy_42 rfl (by decide) rfl ?_
        refine e_iload (pc := 43) C dX0_sufferingBy_43 5 rfl ?_
        refine e_iload (pc := 45) C dX0_sufferingBy_45 1 rfl ?_
        refine e_mmax (pc := 47) C dX0_sufferingBy_47 g1065 g1011 g164 g1012 (Nat.le_of_ble_eq_true rfl) (Nat.le_of_ble_eq_true rfl) (Nat.le_of_ble_eq_true rfl) (Nat.le_of_ble_eq_true rfl) ?_
        obtain ⟨x15, ex15, hf⟩ := nn_e hf
        refine e_topi ex15 ?_
        refine e_istore (pc := 50) (lv2 := [(4, .int x15), (3, .int x14), (6, .int r13), (0, .ref v0), (1, .int v1), (2, .int v2), (5, .int v5)]) C hm dX0_sufferingBy_50 (by decide) rfl ?_
        refine e_lv (lv2 := [(0, .ref v0), (1, .int v1), (2, .int v2), (3, .int x14), (4, .int x15), (5, .int v5)]) [3, 4, 5, 1, 0, 6] rfl ?_
        exact W_52 x14 x15 h11 hf
set_option maxHeartbeats 4000000 in
set_option maxRecDepth 100000 in
theorem ct_X0_sufferingBy {G : GG} {l : Launch} {v0 : Nat} {v1 : Int32} {v2 : Int32} {h : AH} {y : Int32 × AH} (hf : f_X0_sufferingBy G v0 v1 v2 h = some y) : Ct G l yX0_sufferingBy cX0_sufferingBy 7 (some .int) 4 89 0 0 [.ref v0, .int v1, .int v2] h (some (.int y.1), y.2) := by
  refine ct_of (by decide) (Nat.le_of_ble_eq_true rfl) ?_
  intro p e s m args below meth c C hm hr hin
  have C : Cx G cX0_sufferingBy RX0 p s m args meth c := C
  refine e_lv (lv2 := [(0, .ref v0), (1, .int v1), (2, .int v2)]) [0, 1, 2] rfl ?_
  unfold f_X0_sufferingBy at hf
  refine e_iconst (v := (0 : Int32)) (pc := 0) C dX0_sufferingBy_0 (by decide) ?_
  refine e_istore_n (pc := 1) (lv2 := [(3, .int (0 : Int32)), (0, .ref v0), (1, .int v1), (2, .int v2)]) C hm dX0_sufferingBy_1 rfl (by decide) rfl ?_
  refine e_iconst (v := (0 : Int32)) (pc := 2) C dX0_sufferingBy_2 (by decide) ?_
  refine e_istore (pc := 3) (lv2 := [(4, .int (0 : Int32)), (3, .int (0 : Int32)), (0, .ref v0), (1, .int v1), (2, .int v2)]) C hm dX0_sufferingBy_3 (by decide) rfl ?_
  refine e_iconst (v := (0 : Int32)) (pc := 5) C dX0_sufferingBy_5 (by decide) ?_
  refine e_istore (pc := 6) (lv2 := [(5, .int (0 : Int32)), (4, .int (0 : Int32)), (3, .int (0 : Int32)), (0, .ref v0), (1, .int v1), (2, .int v2)]) C hm dX0_sufferingBy_6 (by decide) rfl ?_
  refine e_lv (lv2 := [(0, .ref v0), (1, .int v1), (2, .int v2), (3, .int (0 : Int32)), (4, .int (0 : Int32)), (5, .int (0 : Int32))]) [3, 4, 5, 2, 1, 0] rfl ?_
  refine el_X0_sufferingBy_8 C hm hr hin (fun v3_58 v4_58 h_58 hf => ?_) bN (0 : Int32) (0 : Int32) (0 : Int32) h hf
  refine e_iload_n (pc := 58) C dX0_sufferingBy_58 0 rfl rfl ?_
  rcases it_e hf with ⟨c16, hf⟩ | ⟨c16, hf⟩
  · refine e_if_eq (pc := 59) (tgt := 67) C dX0_sufferingBy_59 (by decide) (fun _ => ?_) (fun q => absurd c16 q)
    refine e_iload_n (pc := 67) C dX0_sufferingBy_67 1 rfl rfl ?_
    obtain rfl := so_e hf
    exact e_iret (pc := 68) C hr dX0_sufferingBy_68 (Nat.le_of_ble_eq_true rfl) (Nat.le_of_ble_eq_true rfl)
  · refine e_if_eq (pc := 59) (tgt := 67) C dX0_sufferingBy_59 (by decide) (fun q => absurd q c16) (fun _ => ?_)
    refine e_iload (pc := 62) C dX0_sufferingBy_62 2 rfl ?_
    refine e_goto (pc := 64) (tgt := 68) C dX0_sufferingBy_64 (by decide) ?_
    obtain rfl := so_e hf
    exact e_iret (pc := 68) C hr dX0_sufferingBy_68 (Nat.le_of_ble_eq_true rfl) (Nat.le_of_ble_eq_true rfl)
theorem dX11_which_0 : decode cX11_which 0 = .ok (.aload_n 0, 1) := by decide +kernel
theorem dX11_which_1 : decode cX11_which 1 = .ok (.invokevirtual 187, 3) := by decide +kernel
theorem dX11_which_4 : decode cX11_which 4 = .ok (.ifCond .eq 12, 3) := by decide +kernel
theorem dX11_which_7 : decode cX11_which 7 = .ok (.iload_n 2, 1) := by decide +kernel
theorem dX11_which_8 : decode cX11_which 8 = .ok (.ifCond .lt 8, 3) := by decide +kernel
theorem dX11_which_11 : decode cX11_which 11 = .ok (.iload_n 2, 1) := by decide +kernel
theorem dX11_which_12 : decode cX11_which 12 = .ok (.iconst 1, 1) := by decide +kernel
theorem dX11_which_13 : decode cX11_which 13 = .ok (.if_icmp .le 5, 3) := by decide +kernel
theorem dX11_which_16 : decode cX11_which 16 = .ok (.iconst (-1), 1) := by decide +kernel
theorem dX11_which_17 : decode cX11_which 17 = .ok (.ireturn, 1) := by decide +kernel
theorem dX11_which_18 : decode cX11_which 18 = .ok (.iconst 0, 1) := by decide +kernel
theorem dX11_which_19 : decode cX11_which 19 = .ok (.istore_n 3, 1) := by decide +kernel
theorem dX11_which_20 : decode cX11_which 20 = .ok (.aload_n 0, 1) := by decide +kernel
theorem dX11_which_21 : decode cX11_which 21 = .ok (.getfield 55, 3) := by decide +kernel
theorem dX11_which_24 : decode cX11_which 24 = .ok (.getfield 63, 3) := by decide +kernel
theorem dX11_which_27 : decode cX11_which 27 = .ok (.iconst 0, 1) := by decide +kernel
theorem dX11_which_28 : decode cX11_which 28 = .ok (.iload_n 1, 1) := by decide +kernel
theorem dX11_which_29 : decode cX11_which 29 = .ok (.invokevirtual 250, 3) := by decide +kernel
theorem dX11_which_32 : decode cX11_which 32 = .ok (.istore 4, 2) := by decide +kernel
theorem dX11_which_34 : decode cX11_which 34 = .ok (.iconst 1, 1) := by decide +kernel
theorem dX11_which_35 : decode cX11_which 35 = .ok (.istore 5, 2) := by decide +kernel
theorem dX11_which_37 : decode cX11_which 37 = .ok (.iload 5, 2) := by decide +kernel
theorem dX11_which_39 : decode cX11_which 39 = .ok (.bipush 6, 2) := by decide +kernel
theorem dX11_which_41 : decode cX11_which 41 = .ok (.if_icmp .ge 38, 3) := by decide +kernel
theorem dX11_which_44 : decode cX11_which 44 = .ok (.aload_n 0, 1) := by decide +kernel
theorem dX11_which_45 : decode cX11_which 45 = .ok (.getfield 55, 3) := by decide +kernel
theorem dX11_which_48 : decode cX11_which 48 = .ok (.getfield 63, 3) := by decide +kernel
theorem dX11_which_51 : decode cX11_which 51 = .ok (.iload 5, 2) := by decide +kernel
theorem dX11_which_53 : decode cX11_which 53 = .ok (.iload_n 1, 1) := by decide +kernel
theorem dX11_which_54 : decode cX11_which 54 = .ok (.invokevirtual 250, 3) := by decide +kernel
theorem dX11_which_57 : decode cX11_which 57 = .ok (.istore 6, 2) := by decide +kernel
theorem dX11_which_59 : decode cX11_which 59 = .ok (.iload 6, 2) := by decide +kernel
theorem dX11_which_61 : decode cX11_which 61 = .ok (.iload 4, 2) := by decide +kernel
theorem dX11_which_63 : decode cX11_which 63 = .ok (.if_icmp .ge 10, 3) := by decide +kernel
theorem dX11_which_66 : decode cX11_which 66 = .ok (.iload 6, 2) := by decide +kernel
theorem dX11_which_68 : decode cX11_which 68 = .ok (.istore 4, 2) := by decide +kernel
theorem dX11_which_70 : decode cX11_which 70 = .ok (.iload 5, 2) := by decide +kernel
theorem dX11_which_72 : decode cX11_which 72 = .ok (.istore_n 3, 1) := by decide +kernel
theorem dX11_which_73 : decode cX11_which 73 = .ok (.iinc 5 1, 3) := by decide +kernel
theorem dX11_which_76 : decode cX11_which 76 = .ok (.goto (-39), 3) := by decide +kernel
theorem dX11_which_79 : decode cX11_which 79 = .ok (.iload_n 2, 1) := by decide +kernel
theorem dX11_which_80 : decode cX11_which 80 = .ok (.ifCond .ne 7, 3) := by decide +kernel
theorem dX11_which_83 : decode cX11_which 83 = .ok (.iload_n 3, 1) := by decide +kernel
theorem dX11_which_84 : decode cX11_which 84 = .ok (.goto 5, 3) := by decide +kernel
theorem dX11_which_87 : decode cX11_which 87 = .ok (.iload 4, 2) := by decide +kernel
theorem dX11_which_89 : decode cX11_which 89 = .ok (.ireturn, 1) := by decide +kernel
noncomputable def F_X11_which_37 (G : GG) (v0 : Nat) (v1 : Int32) (v2 : Int32) (K_79 : Int32 → Int32 → AH → Option (Int32 × AH)) (self_37 : Int32 → Int32 → Int32 → AH → Option (Int32 × AH)) (v3 : Int32) (v4 : Int32) (v5 : Int32) (h : AH) : Option (Int32 × AH) :=
if (6 : Int32) ≤ v5 then (K_79 v3 v4 h) else
ck (m_t h v0 = .inl 11) <|
ob (m_r h v0 5) fun b18 =>
ck (m_t h b18 = .inl 6) <|
ob (m_r h b18 0) fun b20 =>
ck (m_t h b20 = .inl 0) <|
cb (f_X0_sufferingBy G b20 v5 v1 h) fun r24 h22 =>
nn (fun (v3_73 : Int32) (v4_73 : Int32) => (nn (v5 + (1 : Int32)) fun x25 =>
self_37 v3_73 v4_73 x25 h22)) fun j_73 =>
if v4 ≤ r24 then (j_73 v3 v4) else
j_73 v5 r24
noncomputable def f_X11_which (G : GG) (v0 : Nat) (v1 : Int32) (v2 : Int32) (h : AH) : Option (Int32 × AH) :=
ck (m_t h v0 = .inl 11) <|
cb (f_X11_hasTrain G v0 h) fun r4 h2 =>
if r4 = 0 then (some ((-1 : Int32), h2)) else
if v2 < 0 then (some ((-1 : Int32), h2)) else
if v2 ≤ (1 : Int32) then (ck (m_t h2 v0 = .inl 11) <|
ob (m_r h2 v0 5) fun b9 =>
ck (m_t h2 b9 = .inl 6) <|
ob (m_r h2 b9 0) fun b11 =>
ck (m_t h2 b11 = .inl 0) <|
cb (f_X0_sufferingBy G b11 (0 : Int32) v1 h2) fun r15 h13 =>
lq3 (F_X11_which_37 G v0 v1 v2 (fun (v3_79 : Int32) (v4_79 : Int32) (h_79 : AH) => (if v2 = 0 then (some (v3_79, h_79)) else
some (v4_79, h_79)))) bN (0 : Int32) r15 (1 : Int32) h13) else
some ((-1 : Int32), h2)
set_option maxHeartbeats 4000000 in
set_option maxRecDepth 100000 in
theorem el_X11_which_37 {G : GG} {p : Program} {l : Launch} {e : Env} {s : State} {m : MethodId} {args : Array Value} {below : List Frame} {meth : Method} {c : Code} {y : Int32 × AH} (C : Cx G cX11_which RX11 p s m args meth c) (hm : c.maxLocals = 7) (hr : meth.sig.returnType = (some .int)) (hin : meth.name = yX11_which.name) {v0 : Nat} {v1 : Int32} {v2 : Int32} {K_79 : Int32 → Int32 → AH → Option (Int32 × AH)} (hK_79 : ∀ (u3 : Int32) (u4 : Int32) (h : AH), K_79 u3 u4 h = some y → EE G p l e ({ frames := 5, cells := 0, slots := 0, locals := 115 } : Room) s m args below meth c (some (.int y.1), y.2) 0 0 79 [(2, .int v2), (3, .int u3), (4, .int u4)] [] h 0 0) :
    ∀ (n : Nat) (v3 : Int32) (v4 : Int32) (v5 : Int32) (h : AH), lq3 (F_X11_which_37 G v0 v1 v2 K_79) n v3 v4 v5 h = some y → EE G p l e ({ frames := 5, cells := 0, slots := 0, locals := 115 } : Room) s m args below meth c (some (.int y.1), y.2) 0 0 37 [(0, .ref v0), (1, .int v1), (2, .int v2), (3, .int v3), (4, .int v4), (5, .int v5)] [] h 0 0 := by
  intro n
  induction n with
  | zero => intro v3 v4 v5 h hf; exact (no_e hf).elim
  | succ n ih_37 =>
    intro v3 v4 v5 h hf
    have hf : F_X11_which_37 G v0 v1 v2 K_79 (lq3 (F_X11_which_37 G v0 v1 v2 K_79) n) v3 v4 v5 h = some y := hf
    generalize lq3 (F_X11_which_37 G v0 v1 v2 K_79) n = self_37 at hf ih_37
    unfold F_X11_which_37 at hf
    refine e_iload (pc := 37) C dX11_which_37 5 rfl ?_
    refine e_bipush (v := (6 : Int32)) (pc := 39) C dX11_which_39 (by decide) ?_
    rcases it_e hf with ⟨c16, hf⟩ | ⟨c16, hf⟩
    · refine e_icmp_ge (pc := 41) (tgt := 79) C dX11_which_41 (by decide) (fun _ => ?_) (fun q => absurd c16 q)
      refine e_lv (lv2 := [(2, .int v2), (3, .int v3), (4, .int v4)]) [2, 3, 4] rfl ?_
      exact hK_79 v3 v4 h hf
    · refine e_icmp_ge (pc := 41) (tgt := 79) C dX11_which_41 (by decide) (fun q => absurd q c16) (fun _ => ?_)
      refine e_aload_n (pc := 44) C dX11_which_44 0 rfl rfl ?_
      obtain ⟨t17, hf⟩ := ck_e hf
      refine e_getr (pc := 45) 11 5 C dX11_which_45 (by decide) (by decide) g578 rfl t17 ?_
      obtain ⟨b18, eb18, hf⟩ := ob_e hf
      refine e_rf eb18 ?_
      obtain ⟨t19, hf⟩ := ck_e hf
      refine e_getrN (pc := 48) 6 0 C dX11_which_48 (by decide) (by decide) g458 rfl t19 ?_
      obtain ⟨b20, eb20, hf⟩ := ob_e hf
      refine e_rf eb20 ?_
      refine e_iload (pc := 51) C dX11_which_51 5 rfl ?_
      refine e_iload_n (pc := 53) C dX11_which_53 1 rfl rfl ?_
      obtain ⟨t21, hf⟩ := ck_e hf
      obtain ⟨r24, h22, y23, hf⟩ := cb_e hf
      refine e_callVi (pc := 54) (st := []) 0 C (ct_X0_sufferingBy y23) dX11_which_54 (by decide) t21 g1131 g1132 g1133 g151 g1134 hd_X0_sufferingBy rfl ⟨Nat.le_of_ble_eq_true rfl, Nat.le_of_ble_eq_true rfl⟩ ⟨Nat.le_of_ble_eq_true rfl, Nat.le_of_ble_eq_true rfl⟩ rfl (Nat.le_of_ble_eq_true rfl) ?_
      refine e_istore (pc := 57) (lv2 := [(6, .int r24), (0, .ref v0), (1, .int v1), (2, .int v2), (3, .int v3), (4, .int v4), (5, .int v5)]) C hm dX11_which_57 (by decide) rfl ?_
      refine e_iload (pc := 59) C dX11_which_59 0 rfl ?_
      refine e_iload (pc := 61) C dX11_which_61 5 rfl ?_
      obtain ⟨j_73, ej_73, hf⟩ := nn_e hf
      have W_73 : ∀ (v3_73 : Int32) (v4_73 : Int32), j_73 v3_73 v4_73 = some y → EE G p l e ({ frames := 5, cells := 0, slots := 0, locals := 115 } : Room) s m args below meth c (some (.int y.1), y.2) 0 0 73 [(0, .ref v0), (1, .int v1), (2, .int v2), (3, .int v3_73), (4, .int v4_73), (5, .int v5)] [] h22 0 0 := by
        intro v3_73 v4_73 hf
        rw [ej_73] at hf
        obtain ⟨x25, ex25, hf⟩ := nn_e hf
        refine e_iinc (pc := 73) (v := x25) (lv2 := [(5, .int x25), (0, .ref v0), (1, .int v1), (2, .int v2), (3, .int v3_73), (4, .int v4_73)]) C hm dX11_which_73 5 rfl (by rw [ex25]; rfl) (by decide) rfl ?_
        refine e_goto (pc := 76) (tgt := 37) C dX11_which_76 (by decide) ?_
        refine e_lv (lv2 := [(0, .ref v0), (1, .int v1), (2, .int v2), (3, .int v3_73), (4, .int v4_73), (5, .int x25)]) [1, 2, 3, 4, 5, 0] rfl ?_
        exact ih_37 v3_73 v4_73 x25 h22 hf
      rcases it_e hf with ⟨c26, hf⟩ | ⟨c26, hf⟩
      · refine e_icmp_ge (pc := 63) (tgt := 73) C dX11_which_63 (by decide) (fun _ => ?_) (fun q => absurd c26 q)
        refine e_lv (lv2 := [(0, .ref v0), (1, .int v1), (2, .int v2), (3, .int v3), (4, .int v4), (5, .int v5)]) [1, 2, 3, 4, 5, 6] rfl ?_
        exact W_73 v3 v4 hf
      · refine e_icmp_ge (pc := 63) (tgt := 73) C dX11_which_63 (by decide) (fun q => absurd q c26) (fun _ => ?_)
        refine e_iload (pc := 66) C dX11_which_66 0 rfl ?_
        refine e_istore (pc := 68) (lv2 := [(4, .int r24), (6, .int r24), (0, .ref v0), (1, .int v1), (2, .int v2), (3, .int v3), (5, .int v5)]) C hm dX11_which_68 (by decide) rfl ?_
        refine e_iload (pc := 70) C dX11_which_70 6 rfl ?_
        refine e_istore_n (pc := 72) (lv2 := [(3, .int v5), (4, .int r24), (6, .int r24), (0, .ref v0), (1, .int v1), (2, .int v2), (5, .int v5)]) C hm dX11_which_72 rfl (by decide) rfl ?_
        refine e_lv (lv2 := [(0, .ref v0), (1, .int v1), (2, .int v2), (3, .int v5), (4, .int r24), (5, .int v5)]) [3, 4, 5, 0, 1, 6] rfl ?_
        exact W_73 v5 r24 hf
set_option maxHeartbeats 4000000 in
set_option maxRecDepth 100000 in
theorem ct_X11_which {G : GG} {l : Launch} {v0 : Nat} {v1 : Int32} {v2 : Int32} {h : AH} {y : Int32 × AH} (hf : f_X11_which G v0 v1 v2 h = some y) : Ct G l yX11_which cX11_which 7 (some .int) 5 115 0 0 [.ref v0, .int v1, .int v2] h (some (.int y.1), y.2) := by
  refine ct_of (by decide) (Nat.le_of_ble_eq_true rfl) ?_
  intro p e s m args below meth c C hm hr hin
  have C : Cx G cX11_which RX11 p s m args meth c := C
  refine e_lv (lv2 := [(0, .ref v0), (1, .int v1), (2, .int v2)]) [0, 1, 2] rfl ?_
  unfold f_X11_which at hf
  refine e_aload_n (pc := 0) C dX11_which_0 0 rfl rfl ?_
  obtain ⟨t1, hf⟩ := ck_e hf
  obtain ⟨r4, h2, y3, hf⟩ := cb_e hf
  refine e_callVi (pc := 1) (st := []) 11 C (ct_X11_hasTrain y3) dX11_which_1 (by decide) t1 g956 g958 g24 g146 g959 hd_X11_hasTrain rfl ⟨Nat.le_of_ble_eq_true rfl, Nat.le_of_ble_eq_true rfl⟩ ⟨Nat.le_of_ble_eq_true rfl, Nat.le_of_ble_eq_true rfl⟩ rfl (Nat.le_of_ble_eq_true rfl) ?_
  rcases it_e hf with ⟨c5, hf⟩ | ⟨c5, hf⟩
  · refine e_if_eq (pc := 4) (tgt := 16) C dX11_which_4 (by decide) (fun _ => ?_) (fun q => absurd c5 q)
    refine e_iconst (v := (-1 : Int32)) (pc := 16) C dX11_which_16 (by decide) ?_
    obtain rfl := so_e hf
    exact e_iret (pc := 17) C hr dX11_which_17 (Nat.le_of_ble_eq_true rfl) (Nat.le_of_ble_eq_true rfl)
  · refine e_if_eq (pc := 4) (tgt := 16) C dX11_which_4 (by decide) (fun q => absurd q c5) (fun _ => ?_)
    refine e_iload_n (pc := 7) C dX11_which_7 2 rfl rfl ?_
    rcases it_e hf with ⟨c6, hf⟩ | ⟨c6, hf⟩
    · refine e_if_lt (pc := 8) (tgt := 16) C dX11_which_8 (by decide) (fun _ => ?_) (fun q => absurd c6 q)
      refine e_iconst (v := (-1 : Int32)) (pc := 16) C dX11_which_16 (by decide) ?_
      obtain rfl := so_e hf
      exact e_iret (pc := 17) C hr dX11_which_17 (Nat.le_of_ble_eq_true rfl) (Nat.le_of_ble_eq_true rfl)
    · refine e_if_lt (pc := 8) (tgt := 16) C dX11_which_8 (by decide) (fun q => absurd q c6) (fun _ => ?_)
      refine e_iload_n (pc := 11) C dX11_which_11 2 rfl rfl ?_
      refine e_iconst (v := (1 : Int32)) (pc := 12) C dX11_which_12 (by decide) ?_
      rcases it_e hf with ⟨c7, hf⟩ | ⟨c7, hf⟩
      · refine e_icmp_le (pc := 13) (tgt := 18) C dX11_which_13 (by decide) (fun _ => ?_) (fun q => absurd c7 q)
        refine e_iconst (v := (0 : Int32)) (pc := 18) C dX11_which_18 (by decide) ?_
        refine e_istore_n (pc := 19) (lv2 := [(3, .int (0 : Int32)), (0, .ref v0), (1, .int v1), (2, .int v2)]) C hm dX11_which_19 rfl (by decide) rfl ?_
        refine e_aload_n (pc := 20) C dX11_which_20 1 rfl rfl ?_
        obtain ⟨t8, hf⟩ := ck_e hf
        refine e_getr (pc := 21) 11 5 C dX11_which_21 (by decide) (by decide) g578 rfl t8 ?_
        obtain ⟨b9, eb9, hf⟩ := ob_e hf
        refine e_rf eb9 ?_
        obtain ⟨t10, hf⟩ := ck_e hf
        refine e_getrN (pc := 24) 6 0 C dX11_which_24 (by decide) (by decide) g458 rfl t10 ?_
        obtain ⟨b11, eb11, hf⟩ := ob_e hf
        refine e_rf eb11 ?_
        refine e_iconst (v := (0 : Int32)) (pc := 27) C dX11_which_27 (by decide) ?_
        refine e_iload_n (pc := 28) C dX11_which_28 2 rfl rfl ?_
        obtain ⟨t12, hf⟩ := ck_e hf
        obtain ⟨r15, h13, y14, hf⟩ := cb_e hf
        refine e_callVi (pc := 29) (st := []) 0 C (ct_X0_sufferingBy y14) dX11_which_29 (by decide) t12 g1131 g1132 g1133 g151 g1134 hd_X0_sufferingBy rfl ⟨Nat.le_of_ble_eq_true rfl, Nat.le_of_ble_eq_true rfl⟩ ⟨Nat.le_of_ble_eq_true rfl, Nat.le_of_ble_eq_true rfl⟩ rfl (Nat.le_of_ble_eq_true rfl) ?_
        refine e_istore (pc := 32) (lv2 := [(4, .int r15), (3, .int (0 : Int32)), (0, .ref v0), (1, .int v1), (2, .int v2)]) C hm dX11_which_32 (by decide) rfl ?_
        refine e_iconst (v := (1 : Int32)) (pc := 34) C dX11_which_34 (by decide) ?_
        refine e_istore (pc := 35) (lv2 := [(5, .int (1 : Int32)), (4, .int r15), (3, .int (0 : Int32)), (0, .ref v0), (1, .int v1), (2, .int v2)]) C hm dX11_which_35 (by decide) rfl ?_
        refine e_lv (lv2 := [(0, .ref v0), (1, .int v1), (2, .int v2), (3, .int (0 : Int32)), (4, .int r15), (5, .int (1 : Int32))]) [3, 4, 5, 2, 1, 0] rfl ?_
        refine el_X11_which_37 C hm hr hin (fun v3_79 v4_79 h_79 hf => ?_) bN (0 : Int32) r15 (1 : Int32) h13 hf
        refine e_iload_n (pc := 79) C dX11_which_79 0 rfl rfl ?_
        rcases it_e hf with ⟨c27, hf⟩ | ⟨c27, hf⟩
        · refine e_if_ne (pc := 80) (tgt := 87) C dX11_which_80 (by decide) (fun q => absurd c27 q) (fun _ => ?_)
          refine e_iload_n (pc := 83) C dX11_which_83 1 rfl rfl ?_
          refine e_goto (pc := 84) (tgt := 89) C dX11_which_84 (by decide) ?_
          obtain rfl := so_e hf
          exact e_iret (pc := 89) C hr dX11_which_89 (Nat.le_of_ble_eq_true rfl) (Nat.le_of_ble_eq_true rfl)
        · refine e_if_ne (pc := 80) (tgt := 87) C dX11_which_80 (by decide) (fun _ => ?_) (fun q => absurd q c27)
          refine e_iload (pc := 87) C dX11_which_87 2 rfl ?_
          obtain rfl := so_e hf
          exact e_iret (pc := 89) C hr dX11_which_89 (Nat.le_of_ble_eq_true rfl) (Nat.le_of_ble_eq_true rfl)
      · refine e_icmp_le (pc := 13) (tgt := 18) C dX11_which_13 (by decide) (fun q => absurd q c7) (fun _ => ?_)
        refine e_iconst (v := (-1 : Int32)) (pc := 16) C dX11_which_16 (by decide) ?_
        obtain rfl := so_e hf
        exact e_iret (pc := 17) C hr dX11_which_17 (Nat.le_of_ble_eq_true rfl) (Nat.le_of_ble_eq_true rfl)
