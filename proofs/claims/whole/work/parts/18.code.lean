/-! Functions and walks, by a program of ours: X12_sum X12_compared X12_top X12_opens X12_answers X12_fact X12_test X12_amount X12_trainWord X12_onePerson X12_readsPerson X12_readsCold X12_trainPart X12_isFull X12_trainClause X12_copies X12_goesOn X12_starts X12_readsAll X12_maySit X12_sitterOf X12_sitsDown -/
theorem dX12_sum_0 : decode cX12_sum 0 = .ok (.aload_n 0, 1) := by decide +kernel
theorem dX12_sum_1 : decode cX12_sum 1 = .ok (.invokevirtual 308, 3) := by decide +kernel
theorem dX12_sum_4 : decode cX12_sum 4 = .ok (.aload_n 0, 1) := by decide +kernel
theorem dX12_sum_5 : decode cX12_sum 5 = .ok (.getfield 243, 3) := by decide +kernel
theorem dX12_sum_8 : decode cX12_sum 8 = .ok (.ifCond .ne 59, 3) := by decide +kernel
theorem dX12_sum_11 : decode cX12_sum 11 = .ok (.aload_n 0, 1) := by decide +kernel
theorem dX12_sum_12 : decode cX12_sum 12 = .ok (.invokevirtual 249, 3) := by decide +kernel
theorem dX12_sum_15 : decode cX12_sum 15 = .ok (.bipush 43, 2) := by decide +kernel
theorem dX12_sum_17 : decode cX12_sum 17 = .ok (.if_icmp .eq 12, 3) := by decide +kernel
theorem dX12_sum_20 : decode cX12_sum 20 = .ok (.aload_n 0, 1) := by decide +kernel
theorem dX12_sum_21 : decode cX12_sum 21 = .ok (.invokevirtual 249, 3) := by decide +kernel
theorem dX12_sum_24 : decode cX12_sum 24 = .ok (.bipush 45, 2) := by decide +kernel
theorem dX12_sum_26 : decode cX12_sum 26 = .ok (.if_icmp .ne 41, 3) := by decide +kernel
theorem dX12_sum_29 : decode cX12_sum 29 = .ok (.aload_n 0, 1) := by decide +kernel
theorem dX12_sum_30 : decode cX12_sum 30 = .ok (.invokevirtual 249, 3) := by decide +kernel
theorem dX12_sum_33 : decode cX12_sum 33 = .ok (.bipush 43, 2) := by decide +kernel
theorem dX12_sum_35 : decode cX12_sum 35 = .ok (.if_icmp .ne 7, 3) := by decide +kernel
theorem dX12_sum_38 : decode cX12_sum 38 = .ok (.iconst 2, 1) := by decide +kernel
theorem dX12_sum_39 : decode cX12_sum 39 = .ok (.goto 4, 3) := by decide +kernel
theorem dX12_sum_42 : decode cX12_sum 42 = .ok (.iconst 3, 1) := by decide +kernel
theorem dX12_sum_43 : decode cX12_sum 43 = .ok (.istore_n 1, 1) := by decide +kernel
theorem dX12_sum_44 : decode cX12_sum 44 = .ok (.aload_n 0, 1) := by decide +kernel
theorem dX12_sum_45 : decode cX12_sum 45 = .ok (.dup, 1) := by decide +kernel
theorem dX12_sum_46 : decode cX12_sum 46 = .ok (.getfield 246, 3) := by decide +kernel
theorem dX12_sum_49 : decode cX12_sum 49 = .ok (.iconst 1, 1) := by decide +kernel
theorem dX12_sum_50 : decode cX12_sum 50 = .ok (.iadd, 1) := by decide +kernel
theorem dX12_sum_51 : decode cX12_sum 51 = .ok (.putfield 246, 3) := by decide +kernel
theorem dX12_sum_54 : decode cX12_sum 54 = .ok (.aload_n 0, 1) := by decide +kernel
theorem dX12_sum_55 : decode cX12_sum 55 = .ok (.invokevirtual 308, 3) := by decide +kernel
theorem dX12_sum_58 : decode cX12_sum 58 = .ok (.aload_n 0, 1) := by decide +kernel
theorem dX12_sum_59 : decode cX12_sum 59 = .ok (.iload_n 1, 1) := by decide +kernel
theorem dX12_sum_60 : decode cX12_sum 60 = .ok (.iconst 0, 1) := by decide +kernel
theorem dX12_sum_61 : decode cX12_sum 61 = .ok (.invokevirtual 298, 3) := by decide +kernel
theorem dX12_sum_64 : decode cX12_sum 64 = .ok (.goto (-60), 3) := by decide +kernel
theorem dX12_sum_67 : decode cX12_sum 67 = .ok (.return_, 1) := by decide +kernel
def F_X12_sum_4 (G : GG) (v0 : Nat) (self_4 : AH → Option (AH)) (h : AH) : Option (AH) :=
ck (m_t h v0 = .inl 12) <|
if (m_i h v0 34) = 0 then (cb (f_X12_sign G v0 h) fun r8 h6 =>
nn (fun (h_29 : AH) => (ck (m_t h_29 v0 = .inl 12) <|
cb (f_X12_sign G v0 h_29) fun r12 h10 =>
nn (fun (s0_43 : Int32) => (ck (m_t h10 v0 = .inl 12) <|
nn (m_si h10 v0 33 ((m_i h10 v0 33) + (1 : Int32))) fun h14 =>
ob (f_X12_term G v0 h14) fun h15 =>
ck (m_t h15 v0 = .inl 12) <|
ob (f_X12_entry G v0 s0_43 (0 : Int32) h15) fun h18 =>
self_4 h18)) fun j_43 =>
if r12 = (43 : Int32) then (j_43 (2 : Int32)) else
j_43 (3 : Int32))) fun j_29 =>
if r8 = (43 : Int32) then (j_29 h6) else
ck (m_t h6 v0 = .inl 12) <|
cb (f_X12_sign G v0 h6) fun r25 h23 =>
if r25 = (45 : Int32) then (j_29 h23) else
some h23) else
some h
def f_X12_sum (G : GG) (v0 : Nat) (h : AH) : Option (AH) :=
ck (m_t h v0 = .inl 12) <|
ob (f_X12_term G v0 h) fun h2 =>
lq0 (F_X12_sum_4 G v0 ) bN h2
set_option maxHeartbeats 4000000 in
set_option maxRecDepth 100000 in
theorem el_X12_sum_4 {G : GG} {p : Program} {l : Launch} {e : Env} {s : State} {m : MethodId} {args : Array Value} {below : List Frame} {meth : Method} {c : Code} {y : AH} (C : Cx G cX12_sum RX12 p s m args meth c) (hm : c.maxLocals = 2) (hr : meth.sig.returnType = none) (hin : meth.name = yX12_sum.name) {v0 : Nat}  :
    ∀ (n : Nat) (h : AH), lq0 (F_X12_sum_4 G v0) n h = some y → EE G p l e ({ frames := 7, cells := 0, slots := 0, locals := 152 } : Room) s m args below meth c (none, y) 0 0 4 [(0, .ref v0)] [] h 0 0 := by
  intro n
  induction n with
  | zero => intro h hf; exact (no_e hf).elim
  | succ n ih_4 =>
    intro h hf
    have hf : F_X12_sum_4 G v0 (lq0 (F_X12_sum_4 G v0) n) h = some y := hf
    generalize lq0 (F_X12_sum_4 G v0) n = self_4 at hf ih_4
    unfold F_X12_sum_4 at hf
    refine e_aload_n (pc := 4) C dX12_sum_4 0 rfl rfl ?_
    obtain ⟨t4, hf⟩ := ck_e hf
    refine e_geti (pc := 5) 12 34 C dX12_sum_5 (by decide) (by decide) g1435 rfl t4 ?_
    rcases it_e hf with ⟨c5, hf⟩ | ⟨c5, hf⟩
    · refine e_if_ne (pc := 8) (tgt := 67) C dX12_sum_8 (by decide) (fun q => absurd c5 q) (fun _ => ?_)
      refine e_aload_n (pc := 11) C dX12_sum_11 0 rfl rfl ?_
      obtain ⟨r8, h6, y7, hf⟩ := cb_e hf
      refine e_callVi (pc := 12) (st := []) 12 C (ct_X12_sign y7) dX12_sum_12 (by decide) t4 g1690 g1692 g60 g157 g1693 hd_X12_sign rfl ⟨Nat.le_of_ble_eq_true rfl, Nat.le_of_ble_eq_true rfl⟩ ⟨Nat.le_of_ble_eq_true rfl, Nat.le_of_ble_eq_true rfl⟩ rfl (Nat.le_of_ble_eq_true rfl) ?_
      refine e_bipush (v := (43 : Int32)) (pc := 15) C dX12_sum_15 (by decide) ?_
      obtain ⟨j_29, ej_29, hf⟩ := nn_e hf
      have W_29 : ∀ (h_29 : AH), j_29 h_29 = some y → EE G p l e ({ frames := 7, cells := 0, slots := 0, locals := 152 } : Room) s m args below meth c (none, y) 0 0 29 [(0, .ref v0)] [] h_29 0 0 := by
        intro h_29 hf
        rw [ej_29] at hf
        refine e_aload_n (pc := 29) C dX12_sum_29 0 rfl rfl ?_
        obtain ⟨t9, hf⟩ := ck_e hf
        obtain ⟨r12, h10, y11, hf⟩ := cb_e hf
        refine e_callVi (pc := 30) (st := []) 12 C (ct_X12_sign y11) dX12_sum_30 (by decide) t9 g1690 g1692 g60 g157 g1693 hd_X12_sign rfl ⟨Nat.le_of_ble_eq_true rfl, Nat.le_of_ble_eq_true rfl⟩ ⟨Nat.le_of_ble_eq_true rfl, Nat.le_of_ble_eq_true rfl⟩ rfl (Nat.le_of_ble_eq_true rfl) ?_
        refine e_bipush (v := (43 : Int32)) (pc := 33) C dX12_sum_33 (by decide) ?_
        obtain ⟨j_43, ej_43, hf⟩ := nn_e hf
        have W_43 : ∀ (s0_43 : Int32), j_43 s0_43 = some y → EE G p l e ({ frames := 7, cells := 0, slots := 0, locals := 152 } : Room) s m args below meth c (none, y) 0 0 43 [(0, .ref v0)] [.int s0_43] h10 0 0 := by
          intro s0_43 hf
          rw [ej_43] at hf
          refine e_istore_n (pc := 43) (lv2 := [(1, .int s0_43), (0, .ref v0)]) C hm dX12_sum_43 rfl (by decide) rfl ?_
          refine e_aload_n (pc := 44) C dX12_sum_44 1 rfl rfl ?_
          refine e_dup (pc := 45) C dX12_sum_45 rfl ?_
          obtain ⟨t13, hf⟩ := ck_e hf
          refine e_geti (pc := 46) 12 33 C dX12_sum_46 (by decide) (by decide) g1434 rfl t13 ?_
          refine e_iconst (v := (1 : Int32)) (pc := 49) C dX12_sum_49 (by decide) ?_
          refine e_iadd (pc := 50) C dX12_sum_50 ?_
          refine e_puti (pc := 51) 12 33 C dX12_sum_51 (by decide) (by decide) g1434 rfl rfl rfl rfl t13 ?_
          obtain ⟨h14, eh14, hf⟩ := nn_e hf
          refine e_hp eh14 ?_
          have uh14 : m_t h14 = m_t h10 := by rw [eh14]; exact rfl
          refine e_aload_n (pc := 54) C dX12_sum_54 1 rfl rfl ?_
          obtain ⟨h15, y16, hf⟩ := ob_e hf
          refine e_callVv (pc := 55) (st := []) 12 C (ct_X12_term y16) dX12_sum_55 (by decide) (e_mt uh14 t13) g1795 g1797 g79 g157 g1798 hd_X12_term rfl ⟨Nat.le_of_ble_eq_true rfl, Nat.le_of_ble_eq_true rfl⟩ ⟨Nat.le_of_ble_eq_true rfl, Nat.le_of_ble_eq_true rfl⟩ rfl (Nat.le_of_ble_eq_true rfl) ?_
          refine e_aload_n (pc := 58) C dX12_sum_58 1 rfl rfl ?_
          refine e_iload_n (pc := 59) C dX12_sum_59 0 rfl rfl ?_
          refine e_iconst (v := (0 : Int32)) (pc := 60) C dX12_sum_60 (by decide) ?_
          obtain ⟨t17, hf⟩ := ck_e hf
          obtain ⟨h18, y19, hf⟩ := ob_e hf
          refine e_callVv (pc := 61) (st := []) 12 C (ct_X12_entry y19) dX12_sum_61 (by decide) t17 g1807 g1809 g82 g157 g1810 hd_X12_entry rfl ⟨Nat.le_of_ble_eq_true rfl, Nat.le_of_ble_eq_true rfl⟩ ⟨Nat.le_of_ble_eq_true rfl, Nat.le_of_ble_eq_true rfl⟩ rfl (Nat.le_of_ble_eq_true rfl) ?_
          refine e_goto (pc := 64) (tgt := 4) C dX12_sum_64 (by decide) ?_
          refine e_lv (lv2 := [(0, .ref v0)]) [1] rfl ?_
          exact ih_4 h18 hf
        rcases it_e hf with ⟨c20, hf⟩ | ⟨c20, hf⟩
        · refine e_icmp_ne (pc := 35) (tgt := 42) C dX12_sum_35 (by decide) (fun q => absurd c20 q) (fun _ => ?_)
          refine e_iconst (v := (2 : Int32)) (pc := 38) C dX12_sum_38 (by decide) ?_
          refine e_goto (pc := 39) (tgt := 43) C dX12_sum_39 (by decide) ?_
          exact W_43 (2 : Int32) hf
        · refine e_icmp_ne (pc := 35) (tgt := 42) C dX12_sum_35 (by decide) (fun _ => ?_) (fun q => absurd q c20)
          refine e_iconst (v := (3 : Int32)) (pc := 42) C dX12_sum_42 (by decide) ?_
          exact W_43 (3 : Int32) hf
      rcases it_e hf with ⟨c21, hf⟩ | ⟨c21, hf⟩
      · refine e_icmp_eq (pc := 17) (tgt := 29) C dX12_sum_17 (by decide) (fun _ => ?_) (fun q => absurd c21 q)
        exact W_29 h6 hf
      · refine e_icmp_eq (pc := 17) (tgt := 29) C dX12_sum_17 (by decide) (fun q => absurd q c21) (fun _ => ?_)
        refine e_aload_n (pc := 20) C dX12_sum_20 0 rfl rfl ?_
        obtain ⟨t22, hf⟩ := ck_e hf
        obtain ⟨r25, h23, y24, hf⟩ := cb_e hf
        refine e_callVi (pc := 21) (st := []) 12 C (ct_X12_sign y24) dX12_sum_21 (by decide) t22 g1690 g1692 g60 g157 g1693 hd_X12_sign rfl ⟨Nat.le_of_ble_eq_true rfl, Nat.le_of_ble_eq_true rfl⟩ ⟨Nat.le_of_ble_eq_true rfl, Nat.le_of_ble_eq_true rfl⟩ rfl (Nat.le_of_ble_eq_true rfl) ?_
        refine e_bipush (v := (45 : Int32)) (pc := 24) C dX12_sum_24 (by decide) ?_
        rcases it_e hf with ⟨c26, hf⟩ | ⟨c26, hf⟩
        · refine e_icmp_ne (pc := 26) (tgt := 67) C dX12_sum_26 (by decide) (fun q => absurd c26 q) (fun _ => ?_)
          exact W_29 h23 hf
        · refine e_icmp_ne (pc := 26) (tgt := 67) C dX12_sum_26 (by decide) (fun _ => ?_) (fun q => absurd q c26)
          obtain rfl := so_e hf
          exact e_vret (pc := 67) C hr dX12_sum_67 (Nat.le_of_ble_eq_true rfl) (Nat.le_of_ble_eq_true rfl)
    · refine e_if_ne (pc := 8) (tgt := 67) C dX12_sum_8 (by decide) (fun _ => ?_) (fun q => absurd q c5)
      obtain rfl := so_e hf
      exact e_vret (pc := 67) C hr dX12_sum_67 (Nat.le_of_ble_eq_true rfl) (Nat.le_of_ble_eq_true rfl)
set_option maxHeartbeats 4000000 in
set_option maxRecDepth 100000 in
theorem ct_X12_sum {G : GG} {l : Launch} {v0 : Nat} {h : AH} {y : AH} (hf : f_X12_sum G v0 h = some y) : Ct G l yX12_sum cX12_sum 2 none 7 152 0 0 [.ref v0] h (none, y) := by
  refine ct_of (by decide) (Nat.le_of_ble_eq_true rfl) ?_
  intro p e s m args below meth c C hm hr hin
  have C : Cx G cX12_sum RX12 p s m args meth c := C
  refine e_lv (lv2 := [(0, .ref v0)]) [0] rfl ?_
  unfold f_X12_sum at hf
  refine e_aload_n (pc := 0) C dX12_sum_0 0 rfl rfl ?_
  obtain ⟨t1, hf⟩ := ck_e hf
  obtain ⟨h2, y3, hf⟩ := ob_e hf
  refine e_callVv (pc := 1) (st := []) 12 C (ct_X12_term y3) dX12_sum_1 (by decide) t1 g1795 g1797 g79 g157 g1798 hd_X12_term rfl ⟨Nat.le_of_ble_eq_true rfl, Nat.le_of_ble_eq_true rfl⟩ ⟨Nat.le_of_ble_eq_true rfl, Nat.le_of_ble_eq_true rfl⟩ rfl (Nat.le_of_ble_eq_true rfl) ?_
  exact el_X12_sum_4 C hm hr hin bN h2 hf
theorem dX12_compared_0 : decode cX12_compared 0 = .ok (.aload_n 0, 1) := by decide +kernel
theorem dX12_compared_1 : decode cX12_compared 1 = .ok (.invokevirtual 311, 3) := by decide +kernel
theorem dX12_compared_4 : decode cX12_compared 4 = .ok (.aload_n 0, 1) := by decide +kernel
theorem dX12_compared_5 : decode cX12_compared 5 = .ok (.invokevirtual 249, 3) := by decide +kernel
theorem dX12_compared_8 : decode cX12_compared 8 = .ok (.istore_n 1, 1) := by decide +kernel
theorem dX12_compared_9 : decode cX12_compared 9 = .ok (.iload_n 1, 1) := by decide +kernel
theorem dX12_compared_10 : decode cX12_compared 10 = .ok (.bipush 60, 2) := by decide +kernel
theorem dX12_compared_12 : decode cX12_compared 12 = .ok (.if_icmp .eq 25, 3) := by decide +kernel
theorem dX12_compared_15 : decode cX12_compared 15 = .ok (.iload_n 1, 1) := by decide +kernel
theorem dX12_compared_16 : decode cX12_compared 16 = .ok (.bipush 61, 2) := by decide +kernel
theorem dX12_compared_18 : decode cX12_compared 18 = .ok (.if_icmp .eq 19, 3) := by decide +kernel
theorem dX12_compared_21 : decode cX12_compared 21 = .ok (.iload_n 1, 1) := by decide +kernel
theorem dX12_compared_22 : decode cX12_compared 22 = .ok (.bipush 62, 2) := by decide +kernel
theorem dX12_compared_24 : decode cX12_compared 24 = .ok (.if_icmp .eq 13, 3) := by decide +kernel
theorem dX12_compared_27 : decode cX12_compared 27 = .ok (.aload_n 0, 1) := by decide +kernel
theorem dX12_compared_28 : decode cX12_compared 28 = .ok (.iconst 0, 1) := by decide +kernel
theorem dX12_compared_29 : decode cX12_compared 29 = .ok (.aload_n 0, 1) := by decide +kernel
theorem dX12_compared_30 : decode cX12_compared 30 = .ok (.getfield 246, 3) := by decide +kernel
theorem dX12_compared_33 : decode cX12_compared 33 = .ok (.invokevirtual 282, 3) := by decide +kernel
theorem dX12_compared_36 : decode cX12_compared 36 = .ok (.return_, 1) := by decide +kernel
theorem dX12_compared_37 : decode cX12_compared 37 = .ok (.aload_n 0, 1) := by decide +kernel
theorem dX12_compared_38 : decode cX12_compared 38 = .ok (.aload_n 0, 1) := by decide +kernel
theorem dX12_compared_39 : decode cX12_compared 39 = .ok (.getfield 246, 3) := by decide +kernel
theorem dX12_compared_42 : decode cX12_compared 42 = .ok (.invokevirtual 295, 3) := by decide +kernel
theorem dX12_compared_45 : decode cX12_compared 45 = .ok (.aload_n 0, 1) := by decide +kernel
theorem dX12_compared_46 : decode cX12_compared 46 = .ok (.dup, 1) := by decide +kernel
theorem dX12_compared_47 : decode cX12_compared 47 = .ok (.getfield 246, 3) := by decide +kernel
theorem dX12_compared_50 : decode cX12_compared 50 = .ok (.iconst 1, 1) := by decide +kernel
theorem dX12_compared_51 : decode cX12_compared 51 = .ok (.iadd, 1) := by decide +kernel
theorem dX12_compared_52 : decode cX12_compared 52 = .ok (.putfield 246, 3) := by decide +kernel
theorem dX12_compared_55 : decode cX12_compared 55 = .ok (.iload_n 1, 1) := by decide +kernel
theorem dX12_compared_56 : decode cX12_compared 56 = .ok (.bipush 61, 2) := by decide +kernel
theorem dX12_compared_58 : decode cX12_compared 58 = .ok (.if_icmp .eq 16, 3) := by decide +kernel
theorem dX12_compared_61 : decode cX12_compared 61 = .ok (.aload_n 0, 1) := by decide +kernel
theorem dX12_compared_62 : decode cX12_compared 62 = .ok (.invokevirtual 249, 3) := by decide +kernel
theorem dX12_compared_65 : decode cX12_compared 65 = .ok (.bipush 61, 2) := by decide +kernel
theorem dX12_compared_67 : decode cX12_compared 67 = .ok (.if_icmp .ne 7, 3) := by decide +kernel
theorem dX12_compared_70 : decode cX12_compared 70 = .ok (.iconst 1, 1) := by decide +kernel
theorem dX12_compared_71 : decode cX12_compared 71 = .ok (.goto 4, 3) := by decide +kernel
theorem dX12_compared_74 : decode cX12_compared 74 = .ok (.iconst 0, 1) := by decide +kernel
theorem dX12_compared_75 : decode cX12_compared 75 = .ok (.istore_n 2, 1) := by decide +kernel
theorem dX12_compared_76 : decode cX12_compared 76 = .ok (.aload_n 0, 1) := by decide +kernel
theorem dX12_compared_77 : decode cX12_compared 77 = .ok (.dup, 1) := by decide +kernel
theorem dX12_compared_78 : decode cX12_compared 78 = .ok (.getfield 246, 3) := by decide +kernel
theorem dX12_compared_81 : decode cX12_compared 81 = .ok (.iload_n 2, 1) := by decide +kernel
theorem dX12_compared_82 : decode cX12_compared 82 = .ok (.ifCond .eq 7, 3) := by decide +kernel
theorem dX12_compared_85 : decode cX12_compared 85 = .ok (.iconst 1, 1) := by decide +kernel
theorem dX12_compared_86 : decode cX12_compared 86 = .ok (.goto 4, 3) := by decide +kernel
theorem dX12_compared_89 : decode cX12_compared 89 = .ok (.iconst 0, 1) := by decide +kernel
theorem dX12_compared_90 : decode cX12_compared 90 = .ok (.iadd, 1) := by decide +kernel
theorem dX12_compared_91 : decode cX12_compared 91 = .ok (.putfield 246, 3) := by decide +kernel
theorem dX12_compared_94 : decode cX12_compared 94 = .ok (.aload_n 0, 1) := by decide +kernel
theorem dX12_compared_95 : decode cX12_compared 95 = .ok (.invokevirtual 311, 3) := by decide +kernel
theorem dX12_compared_98 : decode cX12_compared 98 = .ok (.aload_n 0, 1) := by decide +kernel
theorem dX12_compared_99 : decode cX12_compared 99 = .ok (.iload_n 1, 1) := by decide +kernel
theorem dX12_compared_100 : decode cX12_compared 100 = .ok (.bipush 61, 2) := by decide +kernel
theorem dX12_compared_102 : decode cX12_compared 102 = .ok (.if_icmp .ne 8, 3) := by decide +kernel
theorem dX12_compared_105 : decode cX12_compared 105 = .ok (.bipush 6, 2) := by decide +kernel
theorem dX12_compared_107 : decode cX12_compared 107 = .ok (.goto 32, 3) := by decide +kernel
theorem dX12_compared_110 : decode cX12_compared 110 = .ok (.iload_n 1, 1) := by decide +kernel
theorem dX12_compared_111 : decode cX12_compared 111 = .ok (.bipush 60, 2) := by decide +kernel
theorem dX12_compared_113 : decode cX12_compared 113 = .ok (.if_icmp .ne 15, 3) := by decide +kernel
theorem dX12_compared_116 : decode cX12_compared 116 = .ok (.iload_n 2, 1) := by decide +kernel
theorem dX12_compared_117 : decode cX12_compared 117 = .ok (.ifCond .eq 7, 3) := by decide +kernel
theorem dX12_compared_120 : decode cX12_compared 120 = .ok (.iconst 5, 1) := by decide +kernel
theorem dX12_compared_121 : decode cX12_compared 121 = .ok (.goto 18, 3) := by decide +kernel
theorem dX12_compared_124 : decode cX12_compared 124 = .ok (.iconst 4, 1) := by decide +kernel
theorem dX12_compared_125 : decode cX12_compared 125 = .ok (.goto 14, 3) := by decide +kernel
theorem dX12_compared_128 : decode cX12_compared 128 = .ok (.iload_n 2, 1) := by decide +kernel
theorem dX12_compared_129 : decode cX12_compared 129 = .ok (.ifCond .eq 8, 3) := by decide +kernel
theorem dX12_compared_132 : decode cX12_compared 132 = .ok (.bipush 7, 2) := by decide +kernel
theorem dX12_compared_134 : decode cX12_compared 134 = .ok (.goto 5, 3) := by decide +kernel
theorem dX12_compared_137 : decode cX12_compared 137 = .ok (.bipush 8, 2) := by decide +kernel
theorem dX12_compared_139 : decode cX12_compared 139 = .ok (.iconst 0, 1) := by decide +kernel
theorem dX12_compared_140 : decode cX12_compared 140 = .ok (.invokevirtual 298, 3) := by decide +kernel
theorem dX12_compared_143 : decode cX12_compared 143 = .ok (.return_, 1) := by decide +kernel
def f_X12_compared (G : GG) (v0 : Nat) (h : AH) : Option (AH) :=
ck (m_t h v0 = .inl 12) <|
ob (f_X12_sum G v0 h) fun h2 =>
ck (m_t h2 v0 = .inl 12) <|
cb (f_X12_sign G v0 h2) fun r7 h5 =>
nn (fun (uu_37 : Unit) => (ck (m_t h5 v0 = .inl 12) <|
ob (f_X12_isCounted G v0 (m_i h5 v0 33) h5) fun h9 =>
ck (m_t h9 v0 = .inl 12) <|
nn (m_si h9 v0 33 ((m_i h9 v0 33) + (1 : Int32))) fun h12 =>
nn (fun (s0_75 : Int32) (h_75 : AH) => (ck (m_t h_75 v0 = .inl 12) <|
nn (fun (s0_90 : Int32) => (nn (m_si h_75 v0 33 ((m_i h_75 v0 33) + s0_90)) fun h14 =>
ob (f_X12_sum G v0 h14) fun h15 =>
nn (fun (s0_139 : Int32) => (ck (m_t h15 v0 = .inl 12) <|
ob (f_X12_entry G v0 s0_139 (0 : Int32) h15) fun h18 =>
some h18)) fun j_139 =>
if r7 = (61 : Int32) then (j_139 (6 : Int32)) else
if r7 = (60 : Int32) then (if s0_75 = 0 then (j_139 (4 : Int32)) else
j_139 (5 : Int32)) else
if s0_75 = 0 then (j_139 (8 : Int32)) else
j_139 (7 : Int32))) fun j_90 =>
if s0_75 = 0 then (j_90 (0 : Int32)) else
j_90 (1 : Int32))) fun j_75 =>
nn (fun (h_74 : AH) => (j_75 (0 : Int32) h_74)) fun j_74 =>
if r7 = (61 : Int32) then (j_74 h12) else
cb (f_X12_sign G v0 h12) fun r28 h26 =>
if r28 = (61 : Int32) then (j_75 (1 : Int32) h26) else
j_74 h26)) fun j_37 =>
if r7 = (60 : Int32) then (j_37 ()) else
if r7 = (61 : Int32) then (j_37 ()) else
if r7 = (62 : Int32) then (j_37 ()) else
ck (m_t h5 v0 = .inl 12) <|
ob (f_X12_fails G v0 (0 : Int32) (m_i h5 v0 33) h5) fun h34 =>
some h34
set_option maxHeartbeats 4000000 in
set_option maxRecDepth 100000 in
theorem ct_X12_compared {G : GG} {l : Launch} {v0 : Nat} {h : AH} {y : AH} (hf : f_X12_compared G v0 h = some y) : Ct G l yX12_compared cX12_compared 3 none 8 173 0 0 [.ref v0] h (none, y) := by
  refine ct_of (by decide) (Nat.le_of_ble_eq_true rfl) ?_
  intro p e s m args below meth c C hm hr hin
  have C : Cx G cX12_compared RX12 p s m args meth c := C
  refine e_lv (lv2 := [(0, .ref v0)]) [0] rfl ?_
  unfold f_X12_compared at hf
  refine e_aload_n (pc := 0) C dX12_compared_0 0 rfl rfl ?_
  obtain ⟨t1, hf⟩ := ck_e hf
  obtain ⟨h2, y3, hf⟩ := ob_e hf
  refine e_callVv (pc := 1) (st := []) 12 C (ct_X12_sum y3) dX12_compared_1 (by decide) t1 g1791 g1793 g78 g157 g1794 hd_X12_sum rfl ⟨Nat.le_of_ble_eq_true rfl, Nat.le_of_ble_eq_true rfl⟩ ⟨Nat.le_of_ble_eq_true rfl, Nat.le_of_ble_eq_true rfl⟩ rfl (Nat.le_of_ble_eq_true rfl) ?_
  refine e_aload_n (pc := 4) C dX12_compared_4 0 rfl rfl ?_
  obtain ⟨t4, hf⟩ := ck_e hf
  obtain ⟨r7, h5, y6, hf⟩ := cb_e hf
  refine e_callVi (pc := 5) (st := []) 12 C (ct_X12_sign y6) dX12_compared_5 (by decide) t4 g1690 g1692 g60 g157 g1693 hd_X12_sign rfl ⟨Nat.le_of_ble_eq_true rfl, Nat.le_of_ble_eq_true rfl⟩ ⟨Nat.le_of_ble_eq_true rfl, Nat.le_of_ble_eq_true rfl⟩ rfl (Nat.le_of_ble_eq_true rfl) ?_
  refine e_istore_n (pc := 8) (lv2 := [(1, .int r7), (0, .ref v0)]) C hm dX12_compared_8 rfl (by decide) rfl ?_
  refine e_iload_n (pc := 9) C dX12_compared_9 0 rfl rfl ?_
  refine e_bipush (v := (60 : Int32)) (pc := 10) C dX12_compared_10 (by decide) ?_
  obtain ⟨j_37, ej_37, hf⟩ := nn_e hf
  have W_37 : ∀ (uu_37 : Unit), j_37 uu_37 = some y → EE G p l e ({ frames := 8, cells := 0, slots := 0, locals := 173 } : Room) s m args below meth c (none, y) 0 0 37 [(0, .ref v0), (1, .int r7)] [] h5 0 0 := by
    intro uu_37 hf
    rw [ej_37] at hf
    refine e_aload_n (pc := 37) C dX12_compared_37 0 rfl rfl ?_
    refine e_aload_n (pc := 38) C dX12_compared_38 0 rfl rfl ?_
    obtain ⟨t8, hf⟩ := ck_e hf
    refine e_geti (pc := 39) 12 33 C dX12_compared_39 (by decide) (by decide) g1434 rfl t8 ?_
    obtain ⟨h9, y10, hf⟩ := ob_e hf
    refine e_callVv (pc := 42) (st := []) 12 C (ct_X12_isCounted y10) dX12_compared_42 (by decide) t8 g1803 g1805 g81 g157 g1806 hd_X12_isCounted rfl ⟨Nat.le_of_ble_eq_true rfl, Nat.le_of_ble_eq_true rfl⟩ ⟨Nat.le_of_ble_eq_true rfl, Nat.le_of_ble_eq_true rfl⟩ rfl (Nat.le_of_ble_eq_true rfl) ?_
    refine e_aload_n (pc := 45) C dX12_compared_45 0 rfl rfl ?_
    refine e_dup (pc := 46) C dX12_compared_46 rfl ?_
    obtain ⟨t11, hf⟩ := ck_e hf
    refine e_geti (pc := 47) 12 33 C dX12_compared_47 (by decide) (by decide) g1434 rfl t11 ?_
    refine e_iconst (v := (1 : Int32)) (pc := 50) C dX12_compared_50 (by decide) ?_
    refine e_iadd (pc := 51) C dX12_compared_51 ?_
    refine e_puti (pc := 52) 12 33 C dX12_compared_52 (by decide) (by decide) g1434 rfl rfl rfl rfl t11 ?_
    obtain ⟨h12, eh12, hf⟩ := nn_e hf
    refine e_hp eh12 ?_
    have uh12 : m_t h12 = m_t h9 := by rw [eh12]; exact rfl
    refine e_iload_n (pc := 55) C dX12_compared_55 1 rfl rfl ?_
    refine e_bipush (v := (61 : Int32)) (pc := 56) C dX12_compared_56 (by decide) ?_
    obtain ⟨j_75, ej_75, hf⟩ := nn_e hf
    have W_75 : ∀ (s0_75 : Int32) (h_75 : AH), j_75 s0_75 h_75 = some y → EE G p l e ({ frames := 8, cells := 0, slots := 0, locals := 173 } : Room) s m args below meth c (none, y) 0 0 75 [(0, .ref v0), (1, .int r7)] [.int s0_75] h_75 0 0 := by
      intro s0_75 h_75 hf
      rw [ej_75] at hf
      refine e_istore_n (pc := 75) (lv2 := [(2, .int s0_75), (0, .ref v0), (1, .int r7)]) C hm dX12_compared_75 rfl (by decide) rfl ?_
      refine e_aload_n (pc := 76) C dX12_compared_76 1 rfl rfl ?_
      refine e_dup (pc := 77) C dX12_compared_77 rfl ?_
      obtain ⟨t13, hf⟩ := ck_e hf
      refine e_geti (pc := 78) 12 33 C dX12_compared_78 (by decide) (by decide) g1434 rfl t13 ?_
      refine e_iload_n (pc := 81) C dX12_compared_81 0 rfl rfl ?_
      obtain ⟨j_90, ej_90, hf⟩ := nn_e hf
      have W_90 : ∀ (s0_90 : Int32), j_90 s0_90 = some y → EE G p l e ({ frames := 8, cells := 0, slots := 0, locals := 173 } : Room) s m args below meth c (none, y) 0 0 90 [(0, .ref v0), (1, .int r7), (2, .int s0_75)] [.int s0_90, .int (m_i h_75 v0 33), .ref v0] h_75 0 0 := by
        intro s0_90 hf
        rw [ej_90] at hf
        refine e_iadd (pc := 90) C dX12_compared_90 ?_
        refine e_puti (pc := 91) 12 33 C dX12_compared_91 (by decide) (by decide) g1434 rfl rfl rfl rfl t13 ?_
        obtain ⟨h14, eh14, hf⟩ := nn_e hf
        refine e_hp eh14 ?_
        have uh14 : m_t h14 = m_t h_75 := by rw [eh14]; exact rfl
        refine e_aload_n (pc := 94) C dX12_compared_94 0 rfl rfl ?_
        obtain ⟨h15, y16, hf⟩ := ob_e hf
        refine e_callVv (pc := 95) (st := []) 12 C (ct_X12_sum y16) dX12_compared_95 (by decide) (e_mt uh14 t13) g1791 g1793 g78 g157 g1794 hd_X12_sum rfl ⟨Nat.le_of_ble_eq_true rfl, Nat.le_of_ble_eq_true rfl⟩ ⟨Nat.le_of_ble_eq_true rfl, Nat.le_of_ble_eq_true rfl⟩ rfl (Nat.le_of_ble_eq_true rfl) ?_
        refine e_aload_n (pc := 98) C dX12_compared_98 0 rfl rfl ?_
        refine e_iload_n (pc := 99) C dX12_compared_99 1 rfl rfl ?_
        refine e_bipush (v := (61 : Int32)) (pc := 100) C dX12_compared_100 (by decide) ?_
        obtain ⟨j_139, ej_139, hf⟩ := nn_e hf
        have W_139 : ∀ (s0_139 : Int32), j_139 s0_139 = some y → EE G p l e ({ frames := 8, cells := 0, slots := 0, locals := 173 } : Room) s m args below meth c (none, y) 0 0 139 [] [.int s0_139, .ref v0] h15 0 0 := by
          intro s0_139 hf
          rw [ej_139] at hf
          refine e_iconst (v := (0 : Int32)) (pc := 139) C dX12_compared_139 (by decide) ?_
          obtain ⟨t17, hf⟩ := ck_e hf
          obtain ⟨h18, y19, hf⟩ := ob_e hf
          refine e_callVv (pc := 140) (st := []) 12 C (ct_X12_entry y19) dX12_compared_140 (by decide) t17 g1807 g1809 g82 g157 g1810 hd_X12_entry rfl ⟨Nat.le_of_ble_eq_true rfl, Nat.le_of_ble_eq_true rfl⟩ ⟨Nat.le_of_ble_eq_true rfl, Nat.le_of_ble_eq_true rfl⟩ rfl (Nat.le_of_ble_eq_true rfl) ?_
          obtain rfl := so_e hf
          exact e_vret (pc := 143) C hr dX12_compared_143 (Nat.le_of_ble_eq_true rfl) (Nat.le_of_ble_eq_true rfl)
        rcases it_e hf with ⟨c20, hf⟩ | ⟨c20, hf⟩
        · refine e_icmp_ne (pc := 102) (tgt := 110) C dX12_compared_102 (by decide) (fun q => absurd c20 q) (fun _ => ?_)
          refine e_bipush (v := (6 : Int32)) (pc := 105) C dX12_compared_105 (by decide) ?_
          refine e_goto (pc := 107) (tgt := 139) C dX12_compared_107 (by decide) ?_
          refine e_lv (lv2 := []) [] rfl ?_
          exact W_139 (6 : Int32) hf
        · refine e_icmp_ne (pc := 102) (tgt := 110) C dX12_compared_102 (by decide) (fun _ => ?_) (fun q => absurd q c20)
          refine e_iload_n (pc := 110) C dX12_compared_110 1 rfl rfl ?_
          refine e_bipush (v := (60 : Int32)) (pc := 111) C dX12_compared_111 (by decide) ?_
          rcases it_e hf with ⟨c21, hf⟩ | ⟨c21, hf⟩
          · refine e_icmp_ne (pc := 113) (tgt := 128) C dX12_compared_113 (by decide) (fun q => absurd c21 q) (fun _ => ?_)
            refine e_iload_n (pc := 116) C dX12_compared_116 2 rfl rfl ?_
            rcases it_e hf with ⟨c22, hf⟩ | ⟨c22, hf⟩
            · refine e_if_eq (pc := 117) (tgt := 124) C dX12_compared_117 (by decide) (fun _ => ?_) (fun q => absurd c22 q)
              refine e_iconst (v := (4 : Int32)) (pc := 124) C dX12_compared_124 (by decide) ?_
              refine e_goto (pc := 125) (tgt := 139) C dX12_compared_125 (by decide) ?_
              refine e_lv (lv2 := []) [] rfl ?_
              exact W_139 (4 : Int32) hf
            · refine e_if_eq (pc := 117) (tgt := 124) C dX12_compared_117 (by decide) (fun q => absurd q c22) (fun _ => ?_)
              refine e_iconst (v := (5 : Int32)) (pc := 120) C dX12_compared_120 (by decide) ?_
              refine e_goto (pc := 121) (tgt := 139) C dX12_compared_121 (by decide) ?_
              refine e_lv (lv2 := []) [] rfl ?_
              exact W_139 (5 : Int32) hf
          · refine e_icmp_ne (pc := 113) (tgt := 128) C dX12_compared_113 (by decide) (fun _ => ?_) (fun q => absurd q c21)
            refine e_iload_n (pc := 128) C dX12_compared_128 2 rfl rfl ?_
            rcases it_e hf with ⟨c23, hf⟩ | ⟨c23, hf⟩
            · refine e_if_eq (pc := 129) (tgt := 137) C dX12_compared_129 (by decide) (fun _ => ?_) (fun q => absurd c23 q)
              refine e_bipush (v := (8 : Int32)) (pc := 137) C dX12_compared_137 (by decide) ?_
              refine e_lv (lv2 := []) [] rfl ?_
              exact W_139 (8 : Int32) hf
            · refine e_if_eq (pc := 129) (tgt := 137) C dX12_compared_129 (by decide) (fun q => absurd q c23) (fun _ => ?_)
              refine e_bipush (v := (7 : Int32)) (pc := 132) C dX12_compared_132 (by decide) ?_
              refine e_goto (pc := 134) (tgt := 139) C dX12_compared_134 (by decide) ?_
              refine e_lv (lv2 := []) [] rfl ?_
              exact W_139 (7 : Int32) hf
      rcases it_e hf with ⟨c24, hf⟩ | ⟨c24, hf⟩
      · refine e_if_eq (pc := 82) (tgt := 89) C dX12_compared_82 (by decide) (fun _ => ?_) (fun q => absurd c24 q)
        refine e_iconst (v := (0 : Int32)) (pc := 89) C dX12_compared_89 (by decide) ?_
        refine e_lv (lv2 := [(0, .ref v0), (1, .int r7), (2, .int s0_75)]) [1, 2, 0] rfl ?_
        exact W_90 (0 : Int32) hf
      · refine e_if_eq (pc := 82) (tgt := 89) C dX12_compared_82 (by decide) (fun q => absurd q c24) (fun _ => ?_)
        refine e_iconst (v := (1 : Int32)) (pc := 85) C dX12_compared_85 (by decide) ?_
        refine e_goto (pc := 86) (tgt := 90) C dX12_compared_86 (by decide) ?_
        refine e_lv (lv2 := [(0, .ref v0), (1, .int r7), (2, .int s0_75)]) [1, 2, 0] rfl ?_
        exact W_90 (1 : Int32) hf
    obtain ⟨j_74, ej_74, hf⟩ := nn_e hf
    have W_74 : ∀ (h_74 : AH), j_74 h_74 = some y → EE G p l e ({ frames := 8, cells := 0, slots := 0, locals := 173 } : Room) s m args below meth c (none, y) 0 0 74 [(0, .ref v0), (1, .int r7)] [] h_74 0 0 := by
      intro h_74 hf
      rw [ej_74] at hf
      refine e_iconst (v := (0 : Int32)) (pc := 74) C dX12_compared_74 (by decide) ?_
      exact W_75 (0 : Int32) h_74 hf
    rcases it_e hf with ⟨c25, hf⟩ | ⟨c25, hf⟩
    · refine e_icmp_eq (pc := 58) (tgt := 74) C dX12_compared_58 (by decide) (fun _ => ?_) (fun q => absurd c25 q)
      exact W_74 h12 hf
    · refine e_icmp_eq (pc := 58) (tgt := 74) C dX12_compared_58 (by decide) (fun q => absurd q c25) (fun _ => ?_)
      refine e_aload_n (pc := 61) C dX12_compared_61 0 rfl rfl ?_
      obtain ⟨r28, h26, y27, hf⟩ := cb_e hf
      refine e_callVi (pc := 62) (st := []) 12 C (ct_X12_sign y27) dX12_compared_62 (by decide) (e_mt uh12 t11) g1690 g1692 g60 g157 g1693 hd_X12_sign rfl ⟨Nat.le_of_ble_eq_true rfl, Nat.le_of_ble_eq_true rfl⟩ ⟨Nat.le_of_ble_eq_true rfl, Nat.le_of_ble_eq_true rfl⟩ rfl (Nat.le_of_ble_eq_true rfl) ?_
      refine e_bipush (v := (61 : Int32)) (pc := 65) C dX12_compared_65 (by decide) ?_
      rcases it_e hf with ⟨c29, hf⟩ | ⟨c29, hf⟩
      · refine e_icmp_ne (pc := 67) (tgt := 74) C dX12_compared_67 (by decide) (fun q => absurd c29 q) (fun _ => ?_)
        refine e_iconst (v := (1 : Int32)) (pc := 70) C dX12_compared_70 (by decide) ?_
        refine e_goto (pc := 71) (tgt := 75) C dX12_compared_71 (by decide) ?_
        exact W_75 (1 : Int32) h26 hf
      · refine e_icmp_ne (pc := 67) (tgt := 74) C dX12_compared_67 (by decide) (fun _ => ?_) (fun q => absurd q c29)
        exact W_74 h26 hf
  rcases it_e hf with ⟨c30, hf⟩ | ⟨c30, hf⟩
  · refine e_icmp_eq (pc := 12) (tgt := 37) C dX12_compared_12 (by decide) (fun _ => ?_) (fun q => absurd c30 q)
    refine e_lv (lv2 := [(0, .ref v0), (1, .int r7)]) [1, 0] rfl ?_
    exact W_37 () hf
  · refine e_icmp_eq (pc := 12) (tgt := 37) C dX12_compared_12 (by decide) (fun q => absurd q c30) (fun _ => ?_)
    refine e_iload_n (pc := 15) C dX12_compared_15 0 rfl rfl ?_
    refine e_bipush (v := (61 : Int32)) (pc := 16) C dX12_compared_16 (by decide) ?_
    rcases it_e hf with ⟨c31, hf⟩ | ⟨c31, hf⟩
    · refine e_icmp_eq (pc := 18) (tgt := 37) C dX12_compared_18 (by decide) (fun _ => ?_) (fun q => absurd c31 q)
      refine e_lv (lv2 := [(0, .ref v0), (1, .int r7)]) [1, 0] rfl ?_
      exact W_37 () hf
    · refine e_icmp_eq (pc := 18) (tgt := 37) C dX12_compared_18 (by decide) (fun q => absurd q c31) (fun _ => ?_)
      refine e_iload_n (pc := 21) C dX12_compared_21 0 rfl rfl ?_
      refine e_bipush (v := (62 : Int32)) (pc := 22) C dX12_compared_22 (by decide) ?_
      rcases it_e hf with ⟨c32, hf⟩ | ⟨c32, hf⟩
      · refine e_icmp_eq (pc := 24) (tgt := 37) C dX12_compared_24 (by decide) (fun _ => ?_) (fun q => absurd c32 q)
        refine e_lv (lv2 := [(0, .ref v0), (1, .int r7)]) [1, 0] rfl ?_
        exact W_37 () hf
      · refine e_icmp_eq (pc := 24) (tgt := 37) C dX12_compared_24 (by decide) (fun q => absurd q c32) (fun _ => ?_)
        refine e_aload_n (pc := 27) C dX12_compared_27 1 rfl rfl ?_
        refine e_iconst (v := (0 : Int32)) (pc := 28) C dX12_compared_28 (by decide) ?_
        refine e_aload_n (pc := 29) C dX12_compared_29 1 rfl rfl ?_
        obtain ⟨t33, hf⟩ := ck_e hf
        refine e_geti (pc := 30) 12 33 C dX12_compared_30 (by decide) (by decide) g1434 rfl t33 ?_
        obtain ⟨h34, y35, hf⟩ := ob_e hf
        refine e_callVv (pc := 33) (st := []) 12 C (ct_X12_fails y35) dX12_compared_33 (by decide) t33 g1710 g1712 g62 g157 g1713 hd_X12_fails rfl ⟨Nat.le_of_ble_eq_true rfl, Nat.le_of_ble_eq_true rfl⟩ ⟨Nat.le_of_ble_eq_true rfl, Nat.le_of_ble_eq_true rfl⟩ rfl (Nat.le_of_ble_eq_true rfl) ?_
        obtain rfl := so_e hf
        exact e_vret (pc := 36) C hr dX12_compared_36 (Nat.le_of_ble_eq_true rfl) (Nat.le_of_ble_eq_true rfl)
theorem dX12_top_0 : decode cX12_top 0 = .ok (.aload_n 0, 1) := by decide +kernel
theorem dX12_top_1 : decode cX12_top 1 = .ok (.getfield 314, 3) := by decide +kernel
theorem dX12_top_4 : decode cX12_top 4 = .ok (.ifCond .ne 7, 3) := by decide +kernel
theorem dX12_top_7 : decode cX12_top 7 = .ok (.iconst (-1), 1) := by decide +kernel
theorem dX12_top_8 : decode cX12_top 8 = .ok (.goto 14, 3) := by decide +kernel
theorem dX12_top_11 : decode cX12_top 11 = .ok (.aload_n 0, 1) := by decide +kernel
theorem dX12_top_12 : decode cX12_top 12 = .ok (.getfield 129, 3) := by decide +kernel
theorem dX12_top_15 : decode cX12_top 15 = .ok (.aload_n 0, 1) := by decide +kernel
theorem dX12_top_16 : decode cX12_top 16 = .ok (.getfield 314, 3) := by decide +kernel
theorem dX12_top_19 : decode cX12_top 19 = .ok (.iconst 1, 1) := by decide +kernel
theorem dX12_top_20 : decode cX12_top 20 = .ok (.isub, 1) := by decide +kernel
theorem dX12_top_21 : decode cX12_top 21 = .ok (.iaload, 1) := by decide +kernel
theorem dX12_top_22 : decode cX12_top 22 = .ok (.ireturn, 1) := by decide +kernel
def f_X12_top (G : GG) (v0 : Nat) (h : AH) : Option (Int32 × AH) :=
ck (m_t h v0 = .inl 12) <|
if (m_i h v0 40) = 0 then (some ((-1 : Int32), h)) else
ob (m_r h v0 49) fun b3 =>
ck (ixb h b3 .int ((m_i h v0 40) - (1 : Int32)) = true) <|
some (m_i h b3 ((m_i h v0 40) - (1 : Int32)).toNatClampNeg, h)
set_option maxHeartbeats 4000000 in
set_option maxRecDepth 100000 in
theorem ct_X12_top {G : GG} {l : Launch} {v0 : Nat} {h : AH} {y : Int32 × AH} (hf : f_X12_top G v0 h = some y) : Ct G l yX12_top cX12_top 1 (some .int) 0 0 0 0 [.ref v0] h (some (.int y.1), y.2) := by
  refine ct_of (by decide) (Nat.le_of_ble_eq_true rfl) ?_
  intro p e s m args below meth c C hm hr hin
  have C : Cx G cX12_top RX12 p s m args meth c := C
  refine e_lv (lv2 := [(0, .ref v0)]) [0] rfl ?_
  unfold f_X12_top at hf
  refine e_aload_n (pc := 0) C dX12_top_0 0 rfl rfl ?_
  obtain ⟨t1, hf⟩ := ck_e hf
  refine e_geti (pc := 1) 12 40 C dX12_top_1 (by decide) (by decide) g1441 rfl t1 ?_
  rcases it_e hf with ⟨c2, hf⟩ | ⟨c2, hf⟩
  · refine e_if_ne (pc := 4) (tgt := 11) C dX12_top_4 (by decide) (fun q => absurd c2 q) (fun _ => ?_)
    refine e_iconst (v := (-1 : Int32)) (pc := 7) C dX12_top_7 (by decide) ?_
    refine e_goto (pc := 8) (tgt := 22) C dX12_top_8 (by decide) ?_
    obtain rfl := so_e hf
    exact e_iret (pc := 22) C hr dX12_top_22 (Nat.le_of_ble_eq_true rfl) (Nat.le_of_ble_eq_true rfl)
  · refine e_if_ne (pc := 4) (tgt := 11) C dX12_top_4 (by decide) (fun _ => ?_) (fun q => absurd q c2)
    refine e_aload_n (pc := 11) C dX12_top_11 0 rfl rfl ?_
    refine e_getr (pc := 12) 12 49 C dX12_top_12 (by decide) (by decide) g1450 rfl t1 ?_
    obtain ⟨b3, eb3, hf⟩ := ob_e hf
    refine e_rf eb3 ?_
    refine e_aload_n (pc := 15) C dX12_top_15 0 rfl rfl ?_
    refine e_geti (pc := 16) 12 40 C dX12_top_16 (by decide) (by decide) g1441 rfl t1 ?_
    refine e_iconst (v := (1 : Int32)) (pc := 19) C dX12_top_19 (by decide) ?_
    refine e_isub (pc := 20) C dX12_top_20 ?_
    obtain ⟨q4, hf⟩ := ck_e hf
    obtain ⟨n5, tn5, in5⟩ := ix_e q4
    refine e_iald (pc := 21) C dX12_top_21 tn5 in5 ?_
    obtain rfl := so_e hf
    exact e_iret (pc := 22) C hr dX12_top_22 (Nat.le_of_ble_eq_true rfl) (Nat.le_of_ble_eq_true rfl)
theorem dX12_opens_0 : decode cX12_opens 0 = .ok (.iload_n 1, 1) := by decide +kernel
theorem dX12_opens_1 : decode cX12_opens 1 = .ok (.bipush 9, 2) := by decide +kernel
theorem dX12_opens_3 : decode cX12_opens 3 = .ok (.if_icmp .eq 9, 3) := by decide +kernel
theorem dX12_opens_6 : decode cX12_opens 6 = .ok (.iload_n 1, 1) := by decide +kernel
theorem dX12_opens_7 : decode cX12_opens 7 = .ok (.bipush 12, 2) := by decide +kernel
theorem dX12_opens_9 : decode cX12_opens 9 = .ok (.if_icmp .ne 31, 3) := by decide +kernel
theorem dX12_opens_12 : decode cX12_opens 12 = .ok (.aload_n 0, 1) := by decide +kernel
theorem dX12_opens_13 : decode cX12_opens 13 = .ok (.getfield 317, 3) := by decide +kernel
theorem dX12_opens_16 : decode cX12_opens 16 = .ok (.bipush 10, 2) := by decide +kernel
theorem dX12_opens_18 : decode cX12_opens 18 = .ok (.if_icmp .ne 12, 3) := by decide +kernel
theorem dX12_opens_21 : decode cX12_opens 21 = .ok (.aload_n 0, 1) := by decide +kernel
theorem dX12_opens_22 : decode cX12_opens 22 = .ok (.iconst 2, 1) := by decide +kernel
theorem dX12_opens_23 : decode cX12_opens 23 = .ok (.aload_n 0, 1) := by decide +kernel
theorem dX12_opens_24 : decode cX12_opens 24 = .ok (.getfield 246, 3) := by decide +kernel
theorem dX12_opens_27 : decode cX12_opens 27 = .ok (.invokevirtual 282, 3) := by decide +kernel
theorem dX12_opens_30 : decode cX12_opens 30 = .ok (.aload_n 0, 1) := by decide +kernel
theorem dX12_opens_31 : decode cX12_opens 31 = .ok (.dup, 1) := by decide +kernel
theorem dX12_opens_32 : decode cX12_opens 32 = .ok (.getfield 317, 3) := by decide +kernel
theorem dX12_opens_35 : decode cX12_opens 35 = .ok (.iconst 1, 1) := by decide +kernel
theorem dX12_opens_36 : decode cX12_opens 36 = .ok (.iadd, 1) := by decide +kernel
theorem dX12_opens_37 : decode cX12_opens 37 = .ok (.putfield 317, 3) := by decide +kernel
theorem dX12_opens_40 : decode cX12_opens 40 = .ok (.aload_n 0, 1) := by decide +kernel
theorem dX12_opens_41 : decode cX12_opens 41 = .ok (.getfield 129, 3) := by decide +kernel
theorem dX12_opens_44 : decode cX12_opens 44 = .ok (.aload_n 0, 1) := by decide +kernel
theorem dX12_opens_45 : decode cX12_opens 45 = .ok (.getfield 314, 3) := by decide +kernel
theorem dX12_opens_48 : decode cX12_opens 48 = .ok (.iload_n 1, 1) := by decide +kernel
theorem dX12_opens_49 : decode cX12_opens 49 = .ok (.iastore, 1) := by decide +kernel
theorem dX12_opens_50 : decode cX12_opens 50 = .ok (.aload_n 0, 1) := by decide +kernel
theorem dX12_opens_51 : decode cX12_opens 51 = .ok (.dup, 1) := by decide +kernel
theorem dX12_opens_52 : decode cX12_opens 52 = .ok (.getfield 314, 3) := by decide +kernel
theorem dX12_opens_55 : decode cX12_opens 55 = .ok (.iconst 1, 1) := by decide +kernel
theorem dX12_opens_56 : decode cX12_opens 56 = .ok (.iadd, 1) := by decide +kernel
theorem dX12_opens_57 : decode cX12_opens 57 = .ok (.putfield 314, 3) := by decide +kernel
theorem dX12_opens_60 : decode cX12_opens 60 = .ok (.return_, 1) := by decide +kernel
def f_X12_opens (G : GG) (v0 : Nat) (v1 : Int32) (h : AH) : Option (AH) :=
nn (fun (h_40 : AH) => (ck (m_t h_40 v0 = .inl 12) <|
ob (m_r h_40 v0 49) fun b2 =>
ck (ixb h_40 b2 .int (m_i h_40 v0 40) = true) <|
nn (m_si h_40 b2 (m_i h_40 v0 40).toNatClampNeg v1) fun h5 =>
nn (m_si h5 v0 40 ((m_i h5 v0 40) + (1 : Int32))) fun h6 =>
some h6)) fun j_40 =>
nn (fun (uu_12 : Unit) => (ck (m_t h v0 = .inl 12) <|
nn (fun (h_30 : AH) => (ck (m_t h_30 v0 = .inl 12) <|
nn (m_si h_30 v0 38 ((m_i h_30 v0 38) + (1 : Int32))) fun h9 =>
j_40 h9)) fun j_30 =>
if (m_i h v0 38) = (10 : Int32) then (ob (f_X12_fails G v0 (2 : Int32) (m_i h v0 33) h) fun h11 =>
j_30 h11) else
j_30 h)) fun j_12 =>
if v1 = (9 : Int32) then (j_12 ()) else
if v1 = (12 : Int32) then (j_12 ()) else
j_40 h
set_option maxHeartbeats 4000000 in
set_option maxRecDepth 100000 in
theorem ct_X12_opens {G : GG} {l : Launch} {v0 : Nat} {v1 : Int32} {h : AH} {y : AH} (hf : f_X12_opens G v0 v1 h = some y) : Ct G l yX12_opens cX12_opens 2 none 1 22 0 0 [.ref v0, .int v1] h (none, y) := by
  refine ct_of (by decide) (Nat.le_of_ble_eq_true rfl) ?_
  intro p e s m args below meth c C hm hr hin
  have C : Cx G cX12_opens RX12 p s m args meth c := C
  refine e_lv (lv2 := [(0, .ref v0), (1, .int v1)]) [0, 1] rfl ?_
  unfold f_X12_opens at hf
  refine e_iload_n (pc := 0) C dX12_opens_0 1 rfl rfl ?_
  refine e_bipush (v := (9 : Int32)) (pc := 1) C dX12_opens_1 (by decide) ?_
  obtain ⟨j_40, ej_40, hf⟩ := nn_e hf
  have W_40 : ∀ (h_40 : AH), j_40 h_40 = some y → EE G p l e ({ frames := 1, cells := 0, slots := 0, locals := 22 } : Room) s m args below meth c (none, y) 0 0 40 [(0, .ref v0), (1, .int v1)] [] h_40 0 0 := by
    intro h_40 hf
    rw [ej_40] at hf
    refine e_aload_n (pc := 40) C dX12_opens_40 0 rfl rfl ?_
    obtain ⟨t1, hf⟩ := ck_e hf
    refine e_getr (pc := 41) 12 49 C dX12_opens_41 (by decide) (by decide) g1450 rfl t1 ?_
    obtain ⟨b2, eb2, hf⟩ := ob_e hf
    refine e_rf eb2 ?_
    refine e_aload_n (pc := 44) C dX12_opens_44 0 rfl rfl ?_
    refine e_geti (pc := 45) 12 40 C dX12_opens_45 (by decide) (by decide) g1441 rfl t1 ?_
    refine e_iload_n (pc := 48) C dX12_opens_48 1 rfl rfl ?_
    obtain ⟨q3, hf⟩ := ck_e hf
    obtain ⟨n4, tn4, in4⟩ := ix_e q3
    refine e_iast (pc := 49) C dX12_opens_49 tn4 in4 ?_
    obtain ⟨h5, eh5, hf⟩ := nn_e hf
    refine e_hp eh5 ?_
    have uh5 : m_t h5 = m_t h_40 := by rw [eh5]; exact rfl
    refine e_aload_n (pc := 50) C dX12_opens_50 0 rfl rfl ?_
    refine e_dup (pc := 51) C dX12_opens_51 rfl ?_
    refine e_geti (pc := 52) 12 40 C dX12_opens_52 (by decide) (by decide) g1441 rfl (e_mt uh5 t1) ?_
    refine e_iconst (v := (1 : Int32)) (pc := 55) C dX12_opens_55 (by decide) ?_
    refine e_iadd (pc := 56) C dX12_opens_56 ?_
    refine e_puti (pc := 57) 12 40 C dX12_opens_57 (by decide) (by decide) g1441 rfl rfl rfl rfl (e_mt uh5 t1) ?_
    obtain ⟨h6, eh6, hf⟩ := nn_e hf
    refine e_hp eh6 ?_
    have uh6 : m_t h6 = m_t h_40 := by rw [eh6]; exact uh5
    obtain rfl := so_e hf
    exact e_vret (pc := 60) C hr dX12_opens_60 (Nat.le_of_ble_eq_true rfl) (Nat.le_of_ble_eq_true rfl)
  obtain ⟨j_12, ej_12, hf⟩ := nn_e hf
  have W_12 : ∀ (uu_12 : Unit), j_12 uu_12 = some y → EE G p l e ({ frames := 1, cells := 0, slots := 0, locals := 22 } : Room) s m args below meth c (none, y) 0 0 12 [(0, .ref v0), (1, .int v1)] [] h 0 0 := by
    intro uu_12 hf
    rw [ej_12] at hf
    refine e_aload_n (pc := 12) C dX12_opens_12 0 rfl rfl ?_
    obtain ⟨t7, hf⟩ := ck_e hf
    refine e_geti (pc := 13) 12 38 C dX12_opens_13 (by decide) (by decide) g1439 rfl t7 ?_
    refine e_bipush (v := (10 : Int32)) (pc := 16) C dX12_opens_16 (by decide) ?_
    obtain ⟨j_30, ej_30, hf⟩ := nn_e hf
    have W_30 : ∀ (h_30 : AH), j_30 h_30 = some y → EE G p l e ({ frames := 1, cells := 0, slots := 0, locals := 22 } : Room) s m args below meth c (none, y) 0 0 30 [(0, .ref v0), (1, .int v1)] [] h_30 0 0 := by
      intro h_30 hf
      rw [ej_30] at hf
      refine e_aload_n (pc := 30) C dX12_opens_30 0 rfl rfl ?_
      refine e_dup (pc := 31) C dX12_opens_31 rfl ?_
      obtain ⟨t8, hf⟩ := ck_e hf
      refine e_geti (pc := 32) 12 38 C dX12_opens_32 (by decide) (by decide) g1439 rfl t8 ?_
      refine e_iconst (v := (1 : Int32)) (pc := 35) C dX12_opens_35 (by decide) ?_
      refine e_iadd (pc := 36) C dX12_opens_36 ?_
      refine e_puti (pc := 37) 12 38 C dX12_opens_37 (by decide) (by decide) g1439 rfl rfl rfl rfl t8 ?_
      obtain ⟨h9, eh9, hf⟩ := nn_e hf
      refine e_hp eh9 ?_
      have uh9 : m_t h9 = m_t h_30 := by rw [eh9]; exact rfl
      exact W_40 h9 hf
    rcases it_e hf with ⟨c10, hf⟩ | ⟨c10, hf⟩
    · refine e_icmp_ne (pc := 18) (tgt := 30) C dX12_opens_18 (by decide) (fun q => absurd c10 q) (fun _ => ?_)
      refine e_aload_n (pc := 21) C dX12_opens_21 0 rfl rfl ?_
      refine e_iconst (v := (2 : Int32)) (pc := 22) C dX12_opens_22 (by decide) ?_
      refine e_aload_n (pc := 23) C dX12_opens_23 0 rfl rfl ?_
      refine e_geti (pc := 24) 12 33 C dX12_opens_24 (by decide) (by decide) g1434 rfl t7 ?_
      obtain ⟨h11, y12, hf⟩ := ob_e hf
      refine e_callVv (pc := 27) (st := []) 12 C (ct_X12_fails y12) dX12_opens_27 (by decide) t7 g1710 g1712 g62 g157 g1713 hd_X12_fails rfl ⟨Nat.le_of_ble_eq_true rfl, Nat.le_of_ble_eq_true rfl⟩ ⟨Nat.le_of_ble_eq_true rfl, Nat.le_of_ble_eq_true rfl⟩ rfl (Nat.le_of_ble_eq_true rfl) ?_
      exact W_30 h11 hf
    · refine e_icmp_ne (pc := 18) (tgt := 30) C dX12_opens_18 (by decide) (fun _ => ?_) (fun q => absurd q c10)
      exact W_30 h hf
  rcases it_e hf with ⟨c13, hf⟩ | ⟨c13, hf⟩
  · refine e_icmp_eq (pc := 3) (tgt := 12) C dX12_opens_3 (by decide) (fun _ => ?_) (fun q => absurd c13 q)
    exact W_12 () hf
  · refine e_icmp_eq (pc := 3) (tgt := 12) C dX12_opens_3 (by decide) (fun q => absurd q c13) (fun _ => ?_)
    refine e_iload_n (pc := 6) C dX12_opens_6 1 rfl rfl ?_
    refine e_bipush (v := (12 : Int32)) (pc := 7) C dX12_opens_7 (by decide) ?_
    rcases it_e hf with ⟨c14, hf⟩ | ⟨c14, hf⟩
    · refine e_icmp_ne (pc := 9) (tgt := 40) C dX12_opens_9 (by decide) (fun q => absurd c14 q) (fun _ => ?_)
      exact W_12 () hf
    · refine e_icmp_ne (pc := 9) (tgt := 40) C dX12_opens_9 (by decide) (fun _ => ?_) (fun q => absurd q c14)
      exact W_40 h hf
theorem dX12_answers_0 : decode cX12_answers 0 = .ok (.aload_n 0, 1) := by decide +kernel
theorem dX12_answers_1 : decode cX12_answers 1 = .ok (.invokevirtual 320, 3) := by decide +kernel
theorem dX12_answers_4 : decode cX12_answers 4 = .ok (.iload_n 1, 1) := by decide +kernel
theorem dX12_answers_5 : decode cX12_answers 5 = .ok (.if_icmp .ne 49, 3) := by decide +kernel
theorem dX12_answers_8 : decode cX12_answers 8 = .ok (.aload_n 0, 1) := by decide +kernel
theorem dX12_answers_9 : decode cX12_answers 9 = .ok (.getfield 243, 3) := by decide +kernel
theorem dX12_answers_12 : decode cX12_answers 12 = .ok (.ifCond .ne 42, 3) := by decide +kernel
theorem dX12_answers_15 : decode cX12_answers 15 = .ok (.aload_n 0, 1) := by decide +kernel
theorem dX12_answers_16 : decode cX12_answers 16 = .ok (.iload_n 1, 1) := by decide +kernel
theorem dX12_answers_17 : decode cX12_answers 17 = .ok (.iconst 0, 1) := by decide +kernel
theorem dX12_answers_18 : decode cX12_answers 18 = .ok (.invokevirtual 298, 3) := by decide +kernel
theorem dX12_answers_21 : decode cX12_answers 21 = .ok (.aload_n 0, 1) := by decide +kernel
theorem dX12_answers_22 : decode cX12_answers 22 = .ok (.dup, 1) := by decide +kernel
theorem dX12_answers_23 : decode cX12_answers 23 = .ok (.getfield 314, 3) := by decide +kernel
theorem dX12_answers_26 : decode cX12_answers 26 = .ok (.iconst 1, 1) := by decide +kernel
theorem dX12_answers_27 : decode cX12_answers 27 = .ok (.isub, 1) := by decide +kernel
theorem dX12_answers_28 : decode cX12_answers 28 = .ok (.putfield 314, 3) := by decide +kernel
theorem dX12_answers_31 : decode cX12_answers 31 = .ok (.aload_n 0, 1) := by decide +kernel
theorem dX12_answers_32 : decode cX12_answers 32 = .ok (.dup, 1) := by decide +kernel
theorem dX12_answers_33 : decode cX12_answers 33 = .ok (.getfield 317, 3) := by decide +kernel
theorem dX12_answers_36 : decode cX12_answers 36 = .ok (.iload_n 1, 1) := by decide +kernel
theorem dX12_answers_37 : decode cX12_answers 37 = .ok (.bipush 9, 2) := by decide +kernel
theorem dX12_answers_39 : decode cX12_answers 39 = .ok (.if_icmp .ne 7, 3) := by decide +kernel
theorem dX12_answers_42 : decode cX12_answers 42 = .ok (.iconst 1, 1) := by decide +kernel
theorem dX12_answers_43 : decode cX12_answers 43 = .ok (.goto 4, 3) := by decide +kernel
theorem dX12_answers_46 : decode cX12_answers 46 = .ok (.iconst 0, 1) := by decide +kernel
theorem dX12_answers_47 : decode cX12_answers 47 = .ok (.isub, 1) := by decide +kernel
theorem dX12_answers_48 : decode cX12_answers 48 = .ok (.putfield 317, 3) := by decide +kernel
theorem dX12_answers_51 : decode cX12_answers 51 = .ok (.goto (-51), 3) := by decide +kernel
theorem dX12_answers_54 : decode cX12_answers 54 = .ok (.return_, 1) := by decide +kernel
def F_X12_answers_0 (G : GG) (v0 : Nat) (v1 : Int32) (self_0 : AH → Option (AH)) (h : AH) : Option (AH) :=
ck (m_t h v0 = .inl 12) <|
cb (f_X12_top G v0 h) fun r4 h2 =>
if r4 = v1 then (ck (m_t h2 v0 = .inl 12) <|
if (m_i h2 v0 34) = 0 then (ob (f_X12_entry G v0 v1 (0 : Int32) h2) fun h8 =>
ck (m_t h8 v0 = .inl 12) <|
nn (m_si h8 v0 40 ((m_i h8 v0 40) - (1 : Int32))) fun h11 =>
nn (fun (s0_47 : Int32) => (nn (m_si h11 v0 38 ((m_i h11 v0 38) - s0_47)) fun h12 =>
self_0 h12)) fun j_47 =>
if v1 = (9 : Int32) then (j_47 (1 : Int32)) else
j_47 (0 : Int32)) else
some h2) else
some h2
def f_X12_answers (G : GG) (v0 : Nat) (v1 : Int32) (h : AH) : Option (AH) :=
lq0 (F_X12_answers_0 G v0 v1 ) bN h
set_option maxHeartbeats 4000000 in
set_option maxRecDepth 100000 in
theorem el_X12_answers_0 {G : GG} {p : Program} {l : Launch} {e : Env} {s : State} {m : MethodId} {args : Array Value} {below : List Frame} {meth : Method} {c : Code} {y : AH} (C : Cx G cX12_answers RX12 p s m args meth c) (hm : c.maxLocals = 2) (hr : meth.sig.returnType = none) (hin : meth.name = yX12_answers.name) {v0 : Nat} {v1 : Int32}  :
    ∀ (n : Nat) (h : AH), lq0 (F_X12_answers_0 G v0 v1) n h = some y → EE G p l e ({ frames := 1, cells := 0, slots := 0, locals := 22 } : Room) s m args below meth c (none, y) 0 0 0 [(0, .ref v0), (1, .int v1)] [] h 0 0 := by
  intro n
  induction n with
  | zero => intro h hf; exact (no_e hf).elim
  | succ n ih_0 =>
    intro h hf
    have hf : F_X12_answers_0 G v0 v1 (lq0 (F_X12_answers_0 G v0 v1) n) h = some y := hf
    generalize lq0 (F_X12_answers_0 G v0 v1) n = self_0 at hf ih_0
    unfold F_X12_answers_0 at hf
    refine e_aload_n (pc := 0) C dX12_answers_0 0 rfl rfl ?_
    obtain ⟨t1, hf⟩ := ck_e hf
    obtain ⟨r4, h2, y3, hf⟩ := cb_e hf
    refine e_callVi (pc := 1) (st := []) 12 C (ct_X12_top y3) dX12_answers_1 (by decide) t1 g1851 g1853 g89 g157 g1854 hd_X12_top rfl ⟨Nat.le_of_ble_eq_true rfl, Nat.le_of_ble_eq_true rfl⟩ ⟨Nat.le_of_ble_eq_true rfl, Nat.le_of_ble_eq_true rfl⟩ rfl (Nat.le_of_ble_eq_true rfl) ?_
    refine e_iload_n (pc := 4) C dX12_answers_4 1 rfl rfl ?_
    rcases it_e hf with ⟨c5, hf⟩ | ⟨c5, hf⟩
    · refine e_icmp_ne (pc := 5) (tgt := 54) C dX12_answers_5 (by decide) (fun q => absurd c5 q) (fun _ => ?_)
      refine e_aload_n (pc := 8) C dX12_answers_8 0 rfl rfl ?_
      obtain ⟨t6, hf⟩ := ck_e hf
      refine e_geti (pc := 9) 12 34 C dX12_answers_9 (by decide) (by decide) g1435 rfl t6 ?_
      rcases it_e hf with ⟨c7, hf⟩ | ⟨c7, hf⟩
      · refine e_if_ne (pc := 12) (tgt := 54) C dX12_answers_12 (by decide) (fun q => absurd c7 q) (fun _ => ?_)
        refine e_aload_n (pc := 15) C dX12_answers_15 0 rfl rfl ?_
        refine e_iload_n (pc := 16) C dX12_answers_16 1 rfl rfl ?_
        refine e_iconst (v := (0 : Int32)) (pc := 17) C dX12_answers_17 (by decide) ?_
        obtain ⟨h8, y9, hf⟩ := ob_e hf
        refine e_callVv (pc := 18) (st := []) 12 C (ct_X12_entry y9) dX12_answers_18 (by decide) t6 g1807 g1809 g82 g157 g1810 hd_X12_entry rfl ⟨Nat.le_of_ble_eq_true rfl, Nat.le_of_ble_eq_true rfl⟩ ⟨Nat.le_of_ble_eq_true rfl, Nat.le_of_ble_eq_true rfl⟩ rfl (Nat.le_of_ble_eq_true rfl) ?_
        refine e_aload_n (pc := 21) C dX12_answers_21 0 rfl rfl ?_
        refine e_dup (pc := 22) C dX12_answers_22 rfl ?_
        obtain ⟨t10, hf⟩ := ck_e hf
        refine e_geti (pc := 23) 12 40 C dX12_answers_23 (by decide) (by decide) g1441 rfl t10 ?_
        refine e_iconst (v := (1 : Int32)) (pc := 26) C dX12_answers_26 (by decide) ?_
        refine e_isub (pc := 27) C dX12_answers_27 ?_
        refine e_puti (pc := 28) 12 40 C dX12_answers_28 (by decide) (by decide) g1441 rfl rfl rfl rfl t10 ?_
        obtain ⟨h11, eh11, hf⟩ := nn_e hf
        refine e_hp eh11 ?_
        have uh11 : m_t h11 = m_t h8 := by rw [eh11]; exact rfl
        refine e_aload_n (pc := 31) C dX12_answers_31 0 rfl rfl ?_
        refine e_dup (pc := 32) C dX12_answers_32 rfl ?_
        refine e_geti (pc := 33) 12 38 C dX12_answers_33 (by decide) (by decide) g1439 rfl (e_mt uh11 t10) ?_
        refine e_iload_n (pc := 36) C dX12_answers_36 1 rfl rfl ?_
        refine e_bipush (v := (9 : Int32)) (pc := 37) C dX12_answers_37 (by decide) ?_
        obtain ⟨j_47, ej_47, hf⟩ := nn_e hf
        have W_47 : ∀ (s0_47 : Int32), j_47 s0_47 = some y → EE G p l e ({ frames := 1, cells := 0, slots := 0, locals := 22 } : Room) s m args below meth c (none, y) 0 0 47 [(0, .ref v0), (1, .int v1)] [.int s0_47, .int (m_i h11 v0 38), .ref v0] h11 0 0 := by
          intro s0_47 hf
          rw [ej_47] at hf
          refine e_isub (pc := 47) C dX12_answers_47 ?_
          refine e_puti (pc := 48) 12 38 C dX12_answers_48 (by decide) (by decide) g1439 rfl rfl rfl rfl (e_mt uh11 t10) ?_
          obtain ⟨h12, eh12, hf⟩ := nn_e hf
          refine e_hp eh12 ?_
          have uh12 : m_t h12 = m_t h8 := by rw [eh12]; exact uh11
          refine e_goto (pc := 51) (tgt := 0) C dX12_answers_51 (by decide) ?_
          exact ih_0 h12 hf
        rcases it_e hf with ⟨c13, hf⟩ | ⟨c13, hf⟩
        · refine e_icmp_ne (pc := 39) (tgt := 46) C dX12_answers_39 (by decide) (fun q => absurd c13 q) (fun _ => ?_)
          refine e_iconst (v := (1 : Int32)) (pc := 42) C dX12_answers_42 (by decide) ?_
          refine e_goto (pc := 43) (tgt := 47) C dX12_answers_43 (by decide) ?_
          exact W_47 (1 : Int32) hf
        · refine e_icmp_ne (pc := 39) (tgt := 46) C dX12_answers_39 (by decide) (fun _ => ?_) (fun q => absurd q c13)
          refine e_iconst (v := (0 : Int32)) (pc := 46) C dX12_answers_46 (by decide) ?_
          exact W_47 (0 : Int32) hf
      · refine e_if_ne (pc := 12) (tgt := 54) C dX12_answers_12 (by decide) (fun _ => ?_) (fun q => absurd q c7)
        obtain rfl := so_e hf
        exact e_vret (pc := 54) C hr dX12_answers_54 (Nat.le_of_ble_eq_true rfl) (Nat.le_of_ble_eq_true rfl)
    · refine e_icmp_ne (pc := 5) (tgt := 54) C dX12_answers_5 (by decide) (fun _ => ?_) (fun q => absurd q c5)
      obtain rfl := so_e hf
      exact e_vret (pc := 54) C hr dX12_answers_54 (Nat.le_of_ble_eq_true rfl) (Nat.le_of_ble_eq_true rfl)
set_option maxHeartbeats 4000000 in
set_option maxRecDepth 100000 in
theorem ct_X12_answers {G : GG} {l : Launch} {v0 : Nat} {v1 : Int32} {h : AH} {y : AH} (hf : f_X12_answers G v0 v1 h = some y) : Ct G l yX12_answers cX12_answers 2 none 1 22 0 0 [.ref v0, .int v1] h (none, y) := by
  refine ct_of (by decide) (Nat.le_of_ble_eq_true rfl) ?_
  intro p e s m args below meth c C hm hr hin
  have C : Cx G cX12_answers RX12 p s m args meth c := C
  refine e_lv (lv2 := [(0, .ref v0), (1, .int v1)]) [0, 1] rfl ?_
  unfold f_X12_answers at hf
  exact el_X12_answers_0 C hm hr hin bN h hf
theorem dX12_fact_0 : decode cX12_fact 0 = .ok (.aload_n 0, 1) := by decide +kernel
theorem dX12_fact_1 : decode cX12_fact 1 = .ok (.invokevirtual 266, 3) := by decide +kernel
theorem dX12_fact_4 : decode cX12_fact 4 = .ok (.aload_n 0, 1) := by decide +kernel
theorem dX12_fact_5 : decode cX12_fact 5 = .ok (.ldc_w 323, 3) := by decide +kernel
theorem dX12_fact_8 : decode cX12_fact 8 = .ok (.invokevirtual 269, 3) := by decide +kernel
theorem dX12_fact_11 : decode cX12_fact 11 = .ok (.ifCond .eq 21, 3) := by decide +kernel
theorem dX12_fact_14 : decode cX12_fact 14 = .ok (.aload_n 0, 1) := by decide +kernel
theorem dX12_fact_15 : decode cX12_fact 15 = .ok (.bipush 9, 2) := by decide +kernel
theorem dX12_fact_17 : decode cX12_fact 17 = .ok (.invokevirtual 325, 3) := by decide +kernel
theorem dX12_fact_20 : decode cX12_fact 20 = .ok (.aload_n 0, 1) := by decide +kernel
theorem dX12_fact_21 : decode cX12_fact 21 = .ok (.dup, 1) := by decide +kernel
theorem dX12_fact_22 : decode cX12_fact 22 = .ok (.getfield 246, 3) := by decide +kernel
theorem dX12_fact_25 : decode cX12_fact 25 = .ok (.iconst 3, 1) := by decide +kernel
theorem dX12_fact_26 : decode cX12_fact 26 = .ok (.iadd, 1) := by decide +kernel
theorem dX12_fact_27 : decode cX12_fact 27 = .ok (.putfield 246, 3) := by decide +kernel
theorem dX12_fact_30 : decode cX12_fact 30 = .ok (.iconst 0, 1) := by decide +kernel
theorem dX12_fact_31 : decode cX12_fact 31 = .ok (.ireturn, 1) := by decide +kernel
theorem dX12_fact_32 : decode cX12_fact 32 = .ok (.aload_n 0, 1) := by decide +kernel
theorem dX12_fact_33 : decode cX12_fact 33 = .ok (.invokevirtual 249, 3) := by decide +kernel
theorem dX12_fact_36 : decode cX12_fact 36 = .ok (.bipush 91, 2) := by decide +kernel
theorem dX12_fact_38 : decode cX12_fact 38 = .ok (.if_icmp .ne 21, 3) := by decide +kernel
theorem dX12_fact_41 : decode cX12_fact 41 = .ok (.aload_n 0, 1) := by decide +kernel
theorem dX12_fact_42 : decode cX12_fact 42 = .ok (.bipush 12, 2) := by decide +kernel
theorem dX12_fact_44 : decode cX12_fact 44 = .ok (.invokevirtual 325, 3) := by decide +kernel
theorem dX12_fact_47 : decode cX12_fact 47 = .ok (.aload_n 0, 1) := by decide +kernel
theorem dX12_fact_48 : decode cX12_fact 48 = .ok (.dup, 1) := by decide +kernel
theorem dX12_fact_49 : decode cX12_fact 49 = .ok (.getfield 246, 3) := by decide +kernel
theorem dX12_fact_52 : decode cX12_fact 52 = .ok (.iconst 1, 1) := by decide +kernel
theorem dX12_fact_53 : decode cX12_fact 53 = .ok (.iadd, 1) := by decide +kernel
theorem dX12_fact_54 : decode cX12_fact 54 = .ok (.putfield 246, 3) := by decide +kernel
theorem dX12_fact_57 : decode cX12_fact 57 = .ok (.iconst 0, 1) := by decide +kernel
theorem dX12_fact_58 : decode cX12_fact 58 = .ok (.ireturn, 1) := by decide +kernel
theorem dX12_fact_59 : decode cX12_fact 59 = .ok (.aload_n 0, 1) := by decide +kernel
theorem dX12_fact_60 : decode cX12_fact 60 = .ok (.invokevirtual 328, 3) := by decide +kernel
theorem dX12_fact_63 : decode cX12_fact 63 = .ok (.iconst 1, 1) := by decide +kernel
theorem dX12_fact_64 : decode cX12_fact 64 = .ok (.ireturn, 1) := by decide +kernel
def f_X12_fact (G : GG) (v0 : Nat) (h : AH) : Option (Int32 × AH) :=
ck (m_t h v0 = .inl 12) <|
ob (f_X12_blanks G v0 h) fun h2 =>
ck (m_t h2 v0 = .inl 12) <|
cb (f_X12_stood G v0 ((G.2.2.2.1 22)) h2) fun r7 h5 =>
if r7 = 0 then (ck (m_t h5 v0 = .inl 12) <|
cb (f_X12_sign G v0 h5) fun r12 h10 =>
if r12 = (91 : Int32) then (ck (m_t h10 v0 = .inl 12) <|
ob (f_X12_opens G v0 (12 : Int32) h10) fun h15 =>
ck (m_t h15 v0 = .inl 12) <|
nn (m_si h15 v0 33 ((m_i h15 v0 33) + (1 : Int32))) fun h18 =>
some ((0 : Int32), h18)) else
ck (m_t h10 v0 = .inl 12) <|
ob (f_X12_compared G v0 h10) fun h20 =>
some ((1 : Int32), h20)) else
ck (m_t h5 v0 = .inl 12) <|
ob (f_X12_opens G v0 (9 : Int32) h5) fun h23 =>
ck (m_t h23 v0 = .inl 12) <|
nn (m_si h23 v0 33 ((m_i h23 v0 33) + (3 : Int32))) fun h26 =>
some ((0 : Int32), h26)
set_option maxHeartbeats 4000000 in
set_option maxRecDepth 100000 in
theorem ct_X12_fact {G : GG} {l : Launch} {v0 : Nat} {h : AH} {y : Int32 × AH} (hf : f_X12_fact G v0 h = some y) : Ct G l yX12_fact cX12_fact 1 (some .boolean) 9 195 0 0 [.ref v0] h (some (.int y.1), y.2) := by
  refine ct_of (by decide) (Nat.le_of_ble_eq_true rfl) ?_
  intro p e s m args below meth c C hm hr hin
  have C : Cx G cX12_fact RX12 p s m args meth c := C
  refine e_lv (lv2 := [(0, .ref v0)]) [0] rfl ?_
  unfold f_X12_fact at hf
  refine e_aload_n (pc := 0) C dX12_fact_0 0 rfl rfl ?_
  obtain ⟨t1, hf⟩ := ck_e hf
  obtain ⟨h2, y3, hf⟩ := ob_e hf
  refine e_callVv (pc := 1) (st := []) 12 C (ct_X12_blanks y3) dX12_fact_1 (by decide) t1 g1686 g1688 g59 g157 g1689 hd_X12_blanks rfl ⟨Nat.le_of_ble_eq_true rfl, Nat.le_of_ble_eq_true rfl⟩ ⟨Nat.le_of_ble_eq_true rfl, Nat.le_of_ble_eq_true rfl⟩ rfl (Nat.le_of_ble_eq_true rfl) ?_
  refine e_aload_n (pc := 4) C dX12_fact_4 0 rfl rfl ?_
  refine e_ldcSw (pc := 5) C dX12_fact_5 22 rfl ?_
  obtain ⟨t4, hf⟩ := ck_e hf
  obtain ⟨r7, h5, y6, hf⟩ := cb_e hf
  refine e_callVi (pc := 8) (st := []) 12 C (ct_X12_stood y6) dX12_fact_8 (by decide) t4 g1704 g1706 g61 g157 g1707 hd_X12_stood rfl ⟨Nat.le_of_ble_eq_true rfl, Nat.le_of_ble_eq_true rfl⟩ ⟨Nat.le_of_ble_eq_true rfl, Nat.le_of_ble_eq_true rfl⟩ rfl (Nat.le_of_ble_eq_true rfl) ?_
  rcases it_e hf with ⟨c8, hf⟩ | ⟨c8, hf⟩
  · refine e_if_eq (pc := 11) (tgt := 32) C dX12_fact_11 (by decide) (fun _ => ?_) (fun q => absurd c8 q)
    refine e_aload_n (pc := 32) C dX12_fact_32 0 rfl rfl ?_
    obtain ⟨t9, hf⟩ := ck_e hf
    obtain ⟨r12, h10, y11, hf⟩ := cb_e hf
    refine e_callVi (pc := 33) (st := []) 12 C (ct_X12_sign y11) dX12_fact_33 (by decide) t9 g1690 g1692 g60 g157 g1693 hd_X12_sign rfl ⟨Nat.le_of_ble_eq_true rfl, Nat.le_of_ble_eq_true rfl⟩ ⟨Nat.le_of_ble_eq_true rfl, Nat.le_of_ble_eq_true rfl⟩ rfl (Nat.le_of_ble_eq_true rfl) ?_
    refine e_bipush (v := (91 : Int32)) (pc := 36) C dX12_fact_36 (by decide) ?_
    rcases it_e hf with ⟨c13, hf⟩ | ⟨c13, hf⟩
    · refine e_icmp_ne (pc := 38) (tgt := 59) C dX12_fact_38 (by decide) (fun q => absurd c13 q) (fun _ => ?_)
      refine e_aload_n (pc := 41) C dX12_fact_41 0 rfl rfl ?_
      refine e_bipush (v := (12 : Int32)) (pc := 42) C dX12_fact_42 (by decide) ?_
      obtain ⟨t14, hf⟩ := ck_e hf
      obtain ⟨h15, y16, hf⟩ := ob_e hf
      refine e_callVv (pc := 44) (st := []) 12 C (ct_X12_opens y16) dX12_fact_44 (by decide) t14 g1839 g1841 g86 g157 g1842 hd_X12_opens rfl ⟨Nat.le_of_ble_eq_true rfl, Nat.le_of_ble_eq_true rfl⟩ ⟨Nat.le_of_ble_eq_true rfl, Nat.le_of_ble_eq_true rfl⟩ rfl (Nat.le_of_ble_eq_true rfl) ?_
      refine e_aload_n (pc := 47) C dX12_fact_47 0 rfl rfl ?_
      refine e_dup (pc := 48) C dX12_fact_48 rfl ?_
      obtain ⟨t17, hf⟩ := ck_e hf
      refine e_geti (pc := 49) 12 33 C dX12_fact_49 (by decide) (by decide) g1434 rfl t17 ?_
      refine e_iconst (v := (1 : Int32)) (pc := 52) C dX12_fact_52 (by decide) ?_
      refine e_iadd (pc := 53) C dX12_fact_53 ?_
      refine e_puti (pc := 54) 12 33 C dX12_fact_54 (by decide) (by decide) g1434 rfl rfl rfl rfl t17 ?_
      obtain ⟨h18, eh18, hf⟩ := nn_e hf
      refine e_hp eh18 ?_
      have uh18 : m_t h18 = m_t h15 := by rw [eh18]; exact rfl
      refine e_iconst (v := (0 : Int32)) (pc := 57) C dX12_fact_57 (by decide) ?_
      obtain rfl := so_e hf
      exact e_zret (pc := 58) (v := (0 : Int32)) C hr (nz_ok (by decide)) dX12_fact_58 (Nat.le_of_ble_eq_true rfl) (Nat.le_of_ble_eq_true rfl)
    · refine e_icmp_ne (pc := 38) (tgt := 59) C dX12_fact_38 (by decide) (fun _ => ?_) (fun q => absurd q c13)
      refine e_aload_n (pc := 59) C dX12_fact_59 0 rfl rfl ?_
      obtain ⟨t19, hf⟩ := ck_e hf
      obtain ⟨h20, y21, hf⟩ := ob_e hf
      refine e_callVv (pc := 60) (st := []) 12 C (ct_X12_compared y21) dX12_fact_60 (by decide) t19 g1843 g1845 g87 g157 g1846 hd_X12_compared rfl ⟨Nat.le_of_ble_eq_true rfl, Nat.le_of_ble_eq_true rfl⟩ ⟨Nat.le_of_ble_eq_true rfl, Nat.le_of_ble_eq_true rfl⟩ rfl (Nat.le_of_ble_eq_true rfl) ?_
      refine e_iconst (v := (1 : Int32)) (pc := 63) C dX12_fact_63 (by decide) ?_
      obtain rfl := so_e hf
      exact e_zret (pc := 64) (v := (1 : Int32)) C hr (nz_ok (by decide)) dX12_fact_64 (Nat.le_of_ble_eq_true rfl) (Nat.le_of_ble_eq_true rfl)
  · refine e_if_eq (pc := 11) (tgt := 32) C dX12_fact_11 (by decide) (fun q => absurd q c8) (fun _ => ?_)
    refine e_aload_n (pc := 14) C dX12_fact_14 0 rfl rfl ?_
    refine e_bipush (v := (9 : Int32)) (pc := 15) C dX12_fact_15 (by decide) ?_
    obtain ⟨t22, hf⟩ := ck_e hf
    obtain ⟨h23, y24, hf⟩ := ob_e hf
    refine e_callVv (pc := 17) (st := []) 12 C (ct_X12_opens y24) dX12_fact_17 (by decide) t22 g1839 g1841 g86 g157 g1842 hd_X12_opens rfl ⟨Nat.le_of_ble_eq_true rfl, Nat.le_of_ble_eq_true rfl⟩ ⟨Nat.le_of_ble_eq_true rfl, Nat.le_of_ble_eq_true rfl⟩ rfl (Nat.le_of_ble_eq_true rfl) ?_
    refine e_aload_n (pc := 20) C dX12_fact_20 0 rfl rfl ?_
    refine e_dup (pc := 21) C dX12_fact_21 rfl ?_
    obtain ⟨t25, hf⟩ := ck_e hf
    refine e_geti (pc := 22) 12 33 C dX12_fact_22 (by decide) (by decide) g1434 rfl t25 ?_
    refine e_iconst (v := (3 : Int32)) (pc := 25) C dX12_fact_25 (by decide) ?_
    refine e_iadd (pc := 26) C dX12_fact_26 ?_
    refine e_puti (pc := 27) 12 33 C dX12_fact_27 (by decide) (by decide) g1434 rfl rfl rfl rfl t25 ?_
    obtain ⟨h26, eh26, hf⟩ := nn_e hf
    refine e_hp eh26 ?_
    have uh26 : m_t h26 = m_t h23 := by rw [eh26]; exact rfl
    refine e_iconst (v := (0 : Int32)) (pc := 30) C dX12_fact_30 (by decide) ?_
    obtain rfl := so_e hf
    exact e_zret (pc := 31) (v := (0 : Int32)) C hr (nz_ok (by decide)) dX12_fact_31 (Nat.le_of_ble_eq_true rfl) (Nat.le_of_ble_eq_true rfl)
theorem dX12_test_0 : decode cX12_test 0 = .ok (.aload_n 0, 1) := by decide +kernel
theorem dX12_test_1 : decode cX12_test 1 = .ok (.iconst 0, 1) := by decide +kernel
theorem dX12_test_2 : decode cX12_test 2 = .ok (.putfield 314, 3) := by decide +kernel
theorem dX12_test_5 : decode cX12_test 5 = .ok (.iconst 1, 1) := by decide +kernel
theorem dX12_test_6 : decode cX12_test 6 = .ok (.istore_n 1, 1) := by decide +kernel
theorem dX12_test_7 : decode cX12_test 7 = .ok (.iconst 1, 1) := by decide +kernel
theorem dX12_test_8 : decode cX12_test 8 = .ok (.istore_n 2, 1) := by decide +kernel
theorem dX12_test_9 : decode cX12_test 9 = .ok (.iload_n 2, 1) := by decide +kernel
theorem dX12_test_10 : decode cX12_test 10 = .ok (.ifCond .eq 192, 3) := by decide +kernel
theorem dX12_test_13 : decode cX12_test 13 = .ok (.aload_n 0, 1) := by decide +kernel
theorem dX12_test_14 : decode cX12_test 14 = .ok (.getfield 243, 3) := by decide +kernel
theorem dX12_test_17 : decode cX12_test 17 = .ok (.ifCond .ne 185, 3) := by decide +kernel
theorem dX12_test_20 : decode cX12_test 20 = .ok (.iload_n 1, 1) := by decide +kernel
theorem dX12_test_21 : decode cX12_test 21 = .ok (.ifCond .eq 19, 3) := by decide +kernel
theorem dX12_test_24 : decode cX12_test 24 = .ok (.aload_n 0, 1) := by decide +kernel
theorem dX12_test_25 : decode cX12_test 25 = .ok (.invokevirtual 331, 3) := by decide +kernel
theorem dX12_test_28 : decode cX12_test 28 = .ok (.ifCond .ne 7, 3) := by decide +kernel
theorem dX12_test_31 : decode cX12_test 31 = .ok (.iconst 1, 1) := by decide +kernel
theorem dX12_test_32 : decode cX12_test 32 = .ok (.goto 4, 3) := by decide +kernel
theorem dX12_test_35 : decode cX12_test 35 = .ok (.iconst 0, 1) := by decide +kernel
theorem dX12_test_36 : decode cX12_test 36 = .ok (.istore_n 1, 1) := by decide +kernel
theorem dX12_test_37 : decode cX12_test 37 = .ok (.goto (-28), 3) := by decide +kernel
theorem dX12_test_40 : decode cX12_test 40 = .ok (.aload_n 0, 1) := by decide +kernel
theorem dX12_test_41 : decode cX12_test 41 = .ok (.bipush 9, 2) := by decide +kernel
theorem dX12_test_43 : decode cX12_test 43 = .ok (.invokevirtual 334, 3) := by decide +kernel
theorem dX12_test_46 : decode cX12_test 46 = .ok (.aload_n 0, 1) := by decide +kernel
theorem dX12_test_47 : decode cX12_test 47 = .ok (.invokevirtual 266, 3) := by decide +kernel
theorem dX12_test_50 : decode cX12_test 50 = .ok (.aload_n 0, 1) := by decide +kernel
theorem dX12_test_51 : decode cX12_test 51 = .ok (.ldc_w 337, 3) := by decide +kernel
theorem dX12_test_54 : decode cX12_test 54 = .ok (.invokevirtual 269, 3) := by decide +kernel
theorem dX12_test_57 : decode cX12_test 57 = .ok (.istore_n 3, 1) := by decide +kernel
theorem dX12_test_58 : decode cX12_test 58 = .ok (.aload_n 0, 1) := by decide +kernel
theorem dX12_test_59 : decode cX12_test 59 = .ok (.ldc_w 339, 3) := by decide +kernel
theorem dX12_test_62 : decode cX12_test 62 = .ok (.invokevirtual 269, 3) := by decide +kernel
theorem dX12_test_65 : decode cX12_test 65 = .ok (.istore 4, 2) := by decide +kernel
theorem dX12_test_67 : decode cX12_test 67 = .ok (.aload_n 0, 1) := by decide +kernel
theorem dX12_test_68 : decode cX12_test 68 = .ok (.bipush 10, 2) := by decide +kernel
theorem dX12_test_70 : decode cX12_test 70 = .ok (.invokevirtual 334, 3) := by decide +kernel
theorem dX12_test_73 : decode cX12_test 73 = .ok (.iload_n 3, 1) := by decide +kernel
theorem dX12_test_74 : decode cX12_test 74 = .ok (.ifCond .ne 8, 3) := by decide +kernel
theorem dX12_test_77 : decode cX12_test 77 = .ok (.iload 4, 2) := by decide +kernel
theorem dX12_test_79 : decode cX12_test 79 = .ok (.ifCond .eq 52, 3) := by decide +kernel
theorem dX12_test_82 : decode cX12_test 82 = .ok (.iload 4, 2) := by decide +kernel
theorem dX12_test_84 : decode cX12_test 84 = .ok (.ifCond .eq 9, 3) := by decide +kernel
theorem dX12_test_87 : decode cX12_test 87 = .ok (.aload_n 0, 1) := by decide +kernel
theorem dX12_test_88 : decode cX12_test 88 = .ok (.bipush 11, 2) := by decide +kernel
theorem dX12_test_90 : decode cX12_test 90 = .ok (.invokevirtual 334, 3) := by decide +kernel
theorem dX12_test_93 : decode cX12_test 93 = .ok (.aload_n 0, 1) := by decide +kernel
theorem dX12_test_94 : decode cX12_test 94 = .ok (.iload_n 3, 1) := by decide +kernel
theorem dX12_test_95 : decode cX12_test 95 = .ok (.ifCond .eq 8, 3) := by decide +kernel
theorem dX12_test_98 : decode cX12_test 98 = .ok (.bipush 10, 2) := by decide +kernel
theorem dX12_test_100 : decode cX12_test 100 = .ok (.goto 5, 3) := by decide +kernel
theorem dX12_test_103 : decode cX12_test 103 = .ok (.bipush 11, 2) := by decide +kernel
theorem dX12_test_105 : decode cX12_test 105 = .ok (.invokevirtual 325, 3) := by decide +kernel
theorem dX12_test_108 : decode cX12_test 108 = .ok (.aload_n 0, 1) := by decide +kernel
theorem dX12_test_109 : decode cX12_test 109 = .ok (.dup, 1) := by decide +kernel
theorem dX12_test_110 : decode cX12_test 110 = .ok (.getfield 246, 3) := by decide +kernel
theorem dX12_test_113 : decode cX12_test 113 = .ok (.iload_n 3, 1) := by decide +kernel
theorem dX12_test_114 : decode cX12_test 114 = .ok (.ifCond .eq 7, 3) := by decide +kernel
theorem dX12_test_117 : decode cX12_test 117 = .ok (.iconst 3, 1) := by decide +kernel
theorem dX12_test_118 : decode cX12_test 118 = .ok (.goto 4, 3) := by decide +kernel
theorem dX12_test_121 : decode cX12_test 121 = .ok (.iconst 2, 1) := by decide +kernel
theorem dX12_test_122 : decode cX12_test 122 = .ok (.iadd, 1) := by decide +kernel
theorem dX12_test_123 : decode cX12_test 123 = .ok (.putfield 246, 3) := by decide +kernel
theorem dX12_test_126 : decode cX12_test 126 = .ok (.iconst 1, 1) := by decide +kernel
theorem dX12_test_127 : decode cX12_test 127 = .ok (.istore_n 1, 1) := by decide +kernel
theorem dX12_test_128 : decode cX12_test 128 = .ok (.goto 71, 3) := by decide +kernel
theorem dX12_test_131 : decode cX12_test 131 = .ok (.aload_n 0, 1) := by decide +kernel
theorem dX12_test_132 : decode cX12_test 132 = .ok (.bipush 11, 2) := by decide +kernel
theorem dX12_test_134 : decode cX12_test 134 = .ok (.invokevirtual 334, 3) := by decide +kernel
theorem dX12_test_137 : decode cX12_test 137 = .ok (.aload_n 0, 1) := by decide +kernel
theorem dX12_test_138 : decode cX12_test 138 = .ok (.invokevirtual 320, 3) := by decide +kernel
theorem dX12_test_141 : decode cX12_test 141 = .ok (.bipush 12, 2) := by decide +kernel
theorem dX12_test_143 : decode cX12_test 143 = .ok (.if_icmp .ne 54, 3) := by decide +kernel
theorem dX12_test_146 : decode cX12_test 146 = .ok (.aload_n 0, 1) := by decide +kernel
theorem dX12_test_147 : decode cX12_test 147 = .ok (.invokevirtual 249, 3) := by decide +kernel
theorem dX12_test_150 : decode cX12_test 150 = .ok (.bipush 93, 2) := by decide +kernel
theorem dX12_test_152 : decode cX12_test 152 = .ok (.if_icmp .eq 12, 3) := by decide +kernel
theorem dX12_test_155 : decode cX12_test 155 = .ok (.aload_n 0, 1) := by decide +kernel
theorem dX12_test_156 : decode cX12_test 156 = .ok (.iconst 0, 1) := by decide +kernel
theorem dX12_test_157 : decode cX12_test 157 = .ok (.aload_n 0, 1) := by decide +kernel
theorem dX12_test_158 : decode cX12_test 158 = .ok (.getfield 246, 3) := by decide +kernel
theorem dX12_test_161 : decode cX12_test 161 = .ok (.invokevirtual 282, 3) := by decide +kernel
theorem dX12_test_164 : decode cX12_test 164 = .ok (.aload_n 0, 1) := by decide +kernel
theorem dX12_test_165 : decode cX12_test 165 = .ok (.dup, 1) := by decide +kernel
theorem dX12_test_166 : decode cX12_test 166 = .ok (.getfield 246, 3) := by decide +kernel
theorem dX12_test_169 : decode cX12_test 169 = .ok (.iconst 1, 1) := by decide +kernel
theorem dX12_test_170 : decode cX12_test 170 = .ok (.iadd, 1) := by decide +kernel
theorem dX12_test_171 : decode cX12_test 171 = .ok (.putfield 246, 3) := by decide +kernel
theorem dX12_test_174 : decode cX12_test 174 = .ok (.aload_n 0, 1) := by decide +kernel
theorem dX12_test_175 : decode cX12_test 175 = .ok (.dup, 1) := by decide +kernel
theorem dX12_test_176 : decode cX12_test 176 = .ok (.getfield 314, 3) := by decide +kernel
theorem dX12_test_179 : decode cX12_test 179 = .ok (.iconst 1, 1) := by decide +kernel
theorem dX12_test_180 : decode cX12_test 180 = .ok (.isub, 1) := by decide +kernel
theorem dX12_test_181 : decode cX12_test 181 = .ok (.putfield 314, 3) := by decide +kernel
theorem dX12_test_184 : decode cX12_test 184 = .ok (.aload_n 0, 1) := by decide +kernel
theorem dX12_test_185 : decode cX12_test 185 = .ok (.dup, 1) := by decide +kernel
theorem dX12_test_186 : decode cX12_test 186 = .ok (.getfield 317, 3) := by decide +kernel
theorem dX12_test_189 : decode cX12_test 189 = .ok (.iconst 1, 1) := by decide +kernel
theorem dX12_test_190 : decode cX12_test 190 = .ok (.isub, 1) := by decide +kernel
theorem dX12_test_191 : decode cX12_test 191 = .ok (.putfield 317, 3) := by decide +kernel
theorem dX12_test_194 : decode cX12_test 194 = .ok (.goto 5, 3) := by decide +kernel
theorem dX12_test_197 : decode cX12_test 197 = .ok (.iconst 0, 1) := by decide +kernel
theorem dX12_test_198 : decode cX12_test 198 = .ok (.istore_n 2, 1) := by decide +kernel
theorem dX12_test_199 : decode cX12_test 199 = .ok (.goto (-190), 3) := by decide +kernel
theorem dX12_test_202 : decode cX12_test 202 = .ok (.return_, 1) := by decide +kernel
def F_X12_test_9 (G : GG) (v0 : Nat) (self_9 : Int32 → Int32 → AH → Option (AH)) (v1 : Int32) (v2 : Int32) (h : AH) : Option (AH) :=
if v2 = 0 then (some h) else
ck (m_t h v0 = .inl 12) <|
if (m_i h v0 34) = 0 then (if v1 = 0 then (ob (f_X12_answers G v0 (9 : Int32) h) fun h7 =>
ck (m_t h7 v0 = .inl 12) <|
ob (f_X12_blanks G v0 h7) fun h10 =>
ck (m_t h10 v0 = .inl 12) <|
cb (f_X12_stood G v0 ((G.2.2.2.1 23)) h10) fun r15 h13 =>
ck (m_t h13 v0 = .inl 12) <|
cb (f_X12_stood G v0 ((G.2.2.2.1 24)) h13) fun r19 h17 =>
ck (m_t h17 v0 = .inl 12) <|
ob (f_X12_answers G v0 (10 : Int32) h17) fun h21 =>
nn (fun (v1_199 : Int32) (v2_199 : Int32) (h_199 : AH) => (self_9 v1_199 v2_199 h_199)) fun j_199 =>
nn (fun (uu_82 : Unit) => (nn (fun (h_93 : AH) => (nn (fun (s0_105 : Int32) => (ck (m_t h_93 v0 = .inl 12) <|
ob (f_X12_opens G v0 s0_105 h_93) fun h24 =>
ck (m_t h24 v0 = .inl 12) <|
nn (fun (s0_122 : Int32) => (nn (m_si h24 v0 33 ((m_i h24 v0 33) + s0_122)) fun h27 =>
j_199 (1 : Int32) v2 h27)) fun j_122 =>
if r15 = 0 then (j_122 (2 : Int32)) else
j_122 (3 : Int32))) fun j_105 =>
if r15 = 0 then (j_105 (11 : Int32)) else
j_105 (10 : Int32))) fun j_93 =>
if r19 = 0 then (j_93 h21) else
ck (m_t h21 v0 = .inl 12) <|
ob (f_X12_answers G v0 (11 : Int32) h21) fun h32 =>
j_93 h32)) fun j_82 =>
if r15 = 0 then (if r19 = 0 then (ck (m_t h21 v0 = .inl 12) <|
ob (f_X12_answers G v0 (11 : Int32) h21) fun h37 =>
ck (m_t h37 v0 = .inl 12) <|
cb (f_X12_top G v0 h37) fun r42 h40 =>
if r42 = (12 : Int32) then (ck (m_t h40 v0 = .inl 12) <|
cb (f_X12_sign G v0 h40) fun r47 h45 =>
nn (fun (h_164 : AH) => (ck (m_t h_164 v0 = .inl 12) <|
nn (m_si h_164 v0 33 ((m_i h_164 v0 33) + (1 : Int32))) fun h49 =>
nn (m_si h49 v0 40 ((m_i h49 v0 40) - (1 : Int32))) fun h50 =>
nn (m_si h50 v0 38 ((m_i h50 v0 38) - (1 : Int32))) fun h51 =>
j_199 v1 v2 h51)) fun j_164 =>
if r47 = (93 : Int32) then (j_164 h45) else
ck (m_t h45 v0 = .inl 12) <|
ob (f_X12_fails G v0 (0 : Int32) (m_i h45 v0 33) h45) fun h54 =>
j_164 h54) else
j_199 v1 (0 : Int32) h40) else
j_82 ()) else
j_82 ()) else
cb (f_X12_fact G v0 h) fun r58 h56 =>
nn (fun (s0_36 : Int32) => (self_9 s0_36 v2 h56)) fun j_36 =>
if r58 = 0 then (j_36 (1 : Int32)) else
j_36 (0 : Int32)) else
some h
def f_X12_test (G : GG) (v0 : Nat) (h : AH) : Option (AH) :=
ck (m_t h v0 = .inl 12) <|
nn (m_si h v0 40 (0 : Int32)) fun h2 =>
lq2 (F_X12_test_9 G v0 ) bN (1 : Int32) (1 : Int32) h2
set_option maxHeartbeats 4000000 in
set_option maxRecDepth 100000 in
theorem el_X12_test_9 {G : GG} {p : Program} {l : Launch} {e : Env} {s : State} {m : MethodId} {args : Array Value} {below : List Frame} {meth : Method} {c : Code} {y : AH} (C : Cx G cX12_test RX12 p s m args meth c) (hm : c.maxLocals = 5) (hr : meth.sig.returnType = none) (hin : meth.name = yX12_test.name) {v0 : Nat}  :
    ∀ (n : Nat) (v1 : Int32) (v2 : Int32) (h : AH), lq2 (F_X12_test_9 G v0) n v1 v2 h = some y → EE G p l e ({ frames := 10, cells := 0, slots := 0, locals := 215 } : Room) s m args below meth c (none, y) 0 0 9 [(0, .ref v0), (1, .int v1), (2, .int v2)] [] h 0 0 := by
  intro n
  induction n with
  | zero => intro v1 v2 h hf; exact (no_e hf).elim
  | succ n ih_9 =>
    intro v1 v2 h hf
    have hf : F_X12_test_9 G v0 (lq2 (F_X12_test_9 G v0) n) v1 v2 h = some y := hf
    generalize lq2 (F_X12_test_9 G v0) n = self_9 at hf ih_9
    unfold F_X12_test_9 at hf
    refine e_iload_n (pc := 9) C dX12_test_9 2 rfl rfl ?_
    rcases it_e hf with ⟨c3, hf⟩ | ⟨c3, hf⟩
    · refine e_if_eq (pc := 10) (tgt := 202) C dX12_test_10 (by decide) (fun _ => ?_) (fun q => absurd c3 q)
      obtain rfl := so_e hf
      exact e_vret (pc := 202) C hr dX12_test_202 (Nat.le_of_ble_eq_true rfl) (Nat.le_of_ble_eq_true rfl)
    · refine e_if_eq (pc := 10) (tgt := 202) C dX12_test_10 (by decide) (fun q => absurd q c3) (fun _ => ?_)
      refine e_aload_n (pc := 13) C dX12_test_13 0 rfl rfl ?_
      obtain ⟨t4, hf⟩ := ck_e hf
      refine e_geti (pc := 14) 12 34 C dX12_test_14 (by decide) (by decide) g1435 rfl t4 ?_
      rcases it_e hf with ⟨c5, hf⟩ | ⟨c5, hf⟩
      · refine e_if_ne (pc := 17) (tgt := 202) C dX12_test_17 (by decide) (fun q => absurd c5 q) (fun _ => ?_)
        refine e_iload_n (pc := 20) C dX12_test_20 1 rfl rfl ?_
        rcases it_e hf with ⟨c6, hf⟩ | ⟨c6, hf⟩
        · refine e_if_eq (pc := 21) (tgt := 40) C dX12_test_21 (by decide) (fun _ => ?_) (fun q => absurd c6 q)
          refine e_aload_n (pc := 40) C dX12_test_40 0 rfl rfl ?_
          refine e_bipush (v := (9 : Int32)) (pc := 41) C dX12_test_41 (by decide) ?_
          obtain ⟨h7, y8, hf⟩ := ob_e hf
          refine e_callVv (pc := 43) (st := []) 12 C (ct_X12_answers y8) dX12_test_43 (by decide) t4 g1847 g1849 g88 g157 g1850 hd_X12_answers rfl ⟨Nat.le_of_ble_eq_true rfl, Nat.le_of_ble_eq_true rfl⟩ ⟨Nat.le_of_ble_eq_true rfl, Nat.le_of_ble_eq_true rfl⟩ rfl (Nat.le_of_ble_eq_true rfl) ?_
          refine e_aload_n (pc := 46) C dX12_test_46 0 rfl rfl ?_
          obtain ⟨t9, hf⟩ := ck_e hf
          obtain ⟨h10, y11, hf⟩ := ob_e hf
          refine e_callVv (pc := 47) (st := []) 12 C (ct_X12_blanks y11) dX12_test_47 (by decide) t9 g1686 g1688 g59 g157 g1689 hd_X12_blanks rfl ⟨Nat.le_of_ble_eq_true rfl, Nat.le_of_ble_eq_true rfl⟩ ⟨Nat.le_of_ble_eq_true rfl, Nat.le_of_ble_eq_true rfl⟩ rfl (Nat.le_of_ble_eq_true rfl) ?_
          refine e_aload_n (pc := 50) C dX12_test_50 0 rfl rfl ?_
          refine e_ldcSw (pc := 51) C dX12_test_51 23 rfl ?_
          obtain ⟨t12, hf⟩ := ck_e hf
          obtain ⟨r15, h13, y14, hf⟩ := cb_e hf
          refine e_callVi (pc := 54) (st := []) 12 C (ct_X12_stood y14) dX12_test_54 (by decide) t12 g1704 g1706 g61 g157 g1707 hd_X12_stood rfl ⟨Nat.le_of_ble_eq_true rfl, Nat.le_of_ble_eq_true rfl⟩ ⟨Nat.le_of_ble_eq_true rfl, Nat.le_of_ble_eq_true rfl⟩ rfl (Nat.le_of_ble_eq_true rfl) ?_
          refine e_istore_n (pc := 57) (lv2 := [(3, .int r15), (0, .ref v0), (1, .int v1), (2, .int v2)]) C hm dX12_test_57 rfl (by decide) rfl ?_
          refine e_aload_n (pc := 58) C dX12_test_58 1 rfl rfl ?_
          refine e_ldcSw (pc := 59) C dX12_test_59 24 rfl ?_
          obtain ⟨t16, hf⟩ := ck_e hf
          obtain ⟨r19, h17, y18, hf⟩ := cb_e hf
          refine e_callVi (pc := 62) (st := []) 12 C (ct_X12_stood y18) dX12_test_62 (by decide) t16 g1704 g1706 g61 g157 g1707 hd_X12_stood rfl ⟨Nat.le_of_ble_eq_true rfl, Nat.le_of_ble_eq_true rfl⟩ ⟨Nat.le_of_ble_eq_true rfl, Nat.le_of_ble_eq_true rfl⟩ rfl (Nat.le_of_ble_eq_true rfl) ?_
          refine e_istore (pc := 65) (lv2 := [(4, .int r19), (3, .int r15), (0, .ref v0), (1, .int v1), (2, .int v2)]) C hm dX12_test_65 (by decide) rfl ?_
          refine e_aload_n (pc := 67) C dX12_test_67 2 rfl rfl ?_
          refine e_bipush (v := (10 : Int32)) (pc := 68) C dX12_test_68 (by decide) ?_
          obtain ⟨t20, hf⟩ := ck_e hf
          obtain ⟨h21, y22, hf⟩ := ob_e hf
          refine e_callVv (pc := 70) (st := []) 12 C (ct_X12_answers y22) dX12_test_70 (by decide) t20 g1847 g1849 g88 g157 g1850 hd_X12_answers rfl ⟨Nat.le_of_ble_eq_true rfl, Nat.le_of_ble_eq_true rfl⟩ ⟨Nat.le_of_ble_eq_true rfl, Nat.le_of_ble_eq_true rfl⟩ rfl (Nat.le_of_ble_eq_true rfl) ?_
          refine e_iload_n (pc := 73) C dX12_test_73 1 rfl rfl ?_
          obtain ⟨j_199, ej_199, hf⟩ := nn_e hf
          have W_199 : ∀ (v1_199 : Int32) (v2_199 : Int32) (h_199 : AH), j_199 v1_199 v2_199 h_199 = some y → EE G p l e ({ frames := 10, cells := 0, slots := 0, locals := 215 } : Room) s m args below meth c (none, y) 0 0 199 [(0, .ref v0), (1, .int v1_199), (2, .int v2_199)] [] h_199 0 0 := by
            intro v1_199 v2_199 h_199 hf
            rw [ej_199] at hf
            refine e_goto (pc := 199) (tgt := 9) C dX12_test_199 (by decide) ?_
            exact ih_9 v1_199 v2_199 h_199 hf
          obtain ⟨j_82, ej_82, hf⟩ := nn_e hf
          have W_82 : ∀ (uu_82 : Unit), j_82 uu_82 = some y → EE G p l e ({ frames := 10, cells := 0, slots := 0, locals := 215 } : Room) s m args below meth c (none, y) 0 0 82 [(0, .ref v0), (2, .int v2), (3, .int r15), (4, .int r19)] [] h21 0 0 := by
            intro uu_82 hf
            rw [ej_82] at hf
            refine e_iload (pc := 82) C dX12_test_82 3 rfl ?_
            obtain ⟨j_93, ej_93, hf⟩ := nn_e hf
            have W_93 : ∀ (h_93 : AH), j_93 h_93 = some y → EE G p l e ({ frames := 10, cells := 0, slots := 0, locals := 215 } : Room) s m args below meth c (none, y) 0 0 93 [(0, .ref v0), (2, .int v2), (3, .int r15)] [] h_93 0 0 := by
              intro h_93 hf
              rw [ej_93] at hf
              refine e_aload_n (pc := 93) C dX12_test_93 0 rfl rfl ?_
              refine e_iload_n (pc := 94) C dX12_test_94 2 rfl rfl ?_
              obtain ⟨j_105, ej_105, hf⟩ := nn_e hf
              have W_105 : ∀ (s0_105 : Int32), j_105 s0_105 = some y → EE G p l e ({ frames := 10, cells := 0, slots := 0, locals := 215 } : Room) s m args below meth c (none, y) 0 0 105 [(0, .ref v0), (2, .int v2), (3, .int r15)] [.int s0_105, .ref v0] h_93 0 0 := by
                intro s0_105 hf
                rw [ej_105] at hf
                obtain ⟨t23, hf⟩ := ck_e hf
                obtain ⟨h24, y25, hf⟩ := ob_e hf
                refine e_callVv (pc := 105) (st := []) 12 C (ct_X12_opens y25) dX12_test_105 (by decide) t23 g1839 g1841 g86 g157 g1842 hd_X12_opens rfl ⟨Nat.le_of_ble_eq_true rfl, Nat.le_of_ble_eq_true rfl⟩ ⟨Nat.le_of_ble_eq_true rfl, Nat.le_of_ble_eq_true rfl⟩ rfl (Nat.le_of_ble_eq_true rfl) ?_
                refine e_aload_n (pc := 108) C dX12_test_108 0 rfl rfl ?_
                refine e_dup (pc := 109) C dX12_test_109 rfl ?_
                obtain ⟨t26, hf⟩ := ck_e hf
                refine e_geti (pc := 110) 12 33 C dX12_test_110 (by decide) (by decide) g1434 rfl t26 ?_
                refine e_iload_n (pc := 113) C dX12_test_113 2 rfl rfl ?_
                obtain ⟨j_122, ej_122, hf⟩ := nn_e hf
                have W_122 : ∀ (s0_122 : Int32), j_122 s0_122 = some y → EE G p l e ({ frames := 10, cells := 0, slots := 0, locals := 215 } : Room) s m args below meth c (none, y) 0 0 122 [(0, .ref v0), (2, .int v2)] [.int s0_122, .int (m_i h24 v0 33), .ref v0] h24 0 0 := by
                  intro s0_122 hf
                  rw [ej_122] at hf
                  refine e_iadd (pc := 122) C dX12_test_122 ?_
                  refine e_puti (pc := 123) 12 33 C dX12_test_123 (by decide) (by decide) g1434 rfl rfl rfl rfl t26 ?_
                  obtain ⟨h27, eh27, hf⟩ := nn_e hf
                  refine e_hp eh27 ?_
                  have uh27 : m_t h27 = m_t h24 := by rw [eh27]; exact rfl
                  refine e_iconst (v := (1 : Int32)) (pc := 126) C dX12_test_126 (by decide) ?_
                  refine e_istore_n (pc := 127) (lv2 := [(1, .int (1 : Int32)), (0, .ref v0), (2, .int v2)]) C hm dX12_test_127 rfl (by decide) rfl ?_
                  refine e_goto (pc := 128) (tgt := 199) C dX12_test_128 (by decide) ?_
                  refine e_lv (lv2 := [(0, .ref v0), (1, .int (1 : Int32)), (2, .int v2)]) [1, 0, 2] rfl ?_
                  exact W_199 (1 : Int32) v2 h27 hf
                rcases it_e hf with ⟨c28, hf⟩ | ⟨c28, hf⟩
                · refine e_if_eq (pc := 114) (tgt := 121) C dX12_test_114 (by decide) (fun _ => ?_) (fun q => absurd c28 q)
                  refine e_iconst (v := (2 : Int32)) (pc := 121) C dX12_test_121 (by decide) ?_
                  refine e_lv (lv2 := [(0, .ref v0), (2, .int v2)]) [0, 1] rfl ?_
                  exact W_122 (2 : Int32) hf
                · refine e_if_eq (pc := 114) (tgt := 121) C dX12_test_114 (by decide) (fun q => absurd q c28) (fun _ => ?_)
                  refine e_iconst (v := (3 : Int32)) (pc := 117) C dX12_test_117 (by decide) ?_
                  refine e_goto (pc := 118) (tgt := 122) C dX12_test_118 (by decide) ?_
                  refine e_lv (lv2 := [(0, .ref v0), (2, .int v2)]) [0, 1] rfl ?_
                  exact W_122 (3 : Int32) hf
              rcases it_e hf with ⟨c29, hf⟩ | ⟨c29, hf⟩
              · refine e_if_eq (pc := 95) (tgt := 103) C dX12_test_95 (by decide) (fun _ => ?_) (fun q => absurd c29 q)
                refine e_bipush (v := (11 : Int32)) (pc := 103) C dX12_test_103 (by decide) ?_
                exact W_105 (11 : Int32) hf
              · refine e_if_eq (pc := 95) (tgt := 103) C dX12_test_95 (by decide) (fun q => absurd q c29) (fun _ => ?_)
                refine e_bipush (v := (10 : Int32)) (pc := 98) C dX12_test_98 (by decide) ?_
                refine e_goto (pc := 100) (tgt := 105) C dX12_test_100 (by decide) ?_
                exact W_105 (10 : Int32) hf
            rcases it_e hf with ⟨c30, hf⟩ | ⟨c30, hf⟩
            · refine e_if_eq (pc := 84) (tgt := 93) C dX12_test_84 (by decide) (fun _ => ?_) (fun q => absurd c30 q)
              refine e_lv (lv2 := [(0, .ref v0), (2, .int v2), (3, .int r15)]) [0, 1, 2] rfl ?_
              exact W_93 h21 hf
            · refine e_if_eq (pc := 84) (tgt := 93) C dX12_test_84 (by decide) (fun q => absurd q c30) (fun _ => ?_)
              refine e_aload_n (pc := 87) C dX12_test_87 0 rfl rfl ?_
              refine e_bipush (v := (11 : Int32)) (pc := 88) C dX12_test_88 (by decide) ?_
              obtain ⟨t31, hf⟩ := ck_e hf
              obtain ⟨h32, y33, hf⟩ := ob_e hf
              refine e_callVv (pc := 90) (st := []) 12 C (ct_X12_answers y33) dX12_test_90 (by decide) t31 g1847 g1849 g88 g157 g1850 hd_X12_answers rfl ⟨Nat.le_of_ble_eq_true rfl, Nat.le_of_ble_eq_true rfl⟩ ⟨Nat.le_of_ble_eq_true rfl, Nat.le_of_ble_eq_true rfl⟩ rfl (Nat.le_of_ble_eq_true rfl) ?_
              refine e_lv (lv2 := [(0, .ref v0), (2, .int v2), (3, .int r15)]) [0, 1, 2] rfl ?_
              exact W_93 h32 hf
          rcases it_e hf with ⟨c34, hf⟩ | ⟨c34, hf⟩
          · refine e_if_ne (pc := 74) (tgt := 82) C dX12_test_74 (by decide) (fun q => absurd c34 q) (fun _ => ?_)
            refine e_iload (pc := 77) C dX12_test_77 0 rfl ?_
            rcases it_e hf with ⟨c35, hf⟩ | ⟨c35, hf⟩
            · refine e_if_eq (pc := 79) (tgt := 131) C dX12_test_79 (by decide) (fun _ => ?_) (fun q => absurd c35 q)
              refine e_aload_n (pc := 131) C dX12_test_131 2 rfl rfl ?_
              refine e_bipush (v := (11 : Int32)) (pc := 132) C dX12_test_132 (by decide) ?_
              obtain ⟨t36, hf⟩ := ck_e hf
              obtain ⟨h37, y38, hf⟩ := ob_e hf
              refine e_callVv (pc := 134) (st := []) 12 C (ct_X12_answers y38) dX12_test_134 (by decide) t36 g1847 g1849 g88 g157 g1850 hd_X12_answers rfl ⟨Nat.le_of_ble_eq_true rfl, Nat.le_of_ble_eq_true rfl⟩ ⟨Nat.le_of_ble_eq_true rfl, Nat.le_of_ble_eq_true rfl⟩ rfl (Nat.le_of_ble_eq_true rfl) ?_
              refine e_aload_n (pc := 137) C dX12_test_137 2 rfl rfl ?_
              obtain ⟨t39, hf⟩ := ck_e hf
              obtain ⟨r42, h40, y41, hf⟩ := cb_e hf
              refine e_callVi (pc := 138) (st := []) 12 C (ct_X12_top y41) dX12_test_138 (by decide) t39 g1851 g1853 g89 g157 g1854 hd_X12_top rfl ⟨Nat.le_of_ble_eq_true rfl, Nat.le_of_ble_eq_true rfl⟩ ⟨Nat.le_of_ble_eq_true rfl, Nat.le_of_ble_eq_true rfl⟩ rfl (Nat.le_of_ble_eq_true rfl) ?_
              refine e_bipush (v := (12 : Int32)) (pc := 141) C dX12_test_141 (by decide) ?_
              rcases it_e hf with ⟨c43, hf⟩ | ⟨c43, hf⟩
              · refine e_icmp_ne (pc := 143) (tgt := 197) C dX12_test_143 (by decide) (fun q => absurd c43 q) (fun _ => ?_)
                refine e_aload_n (pc := 146) C dX12_test_146 2 rfl rfl ?_
                obtain ⟨t44, hf⟩ := ck_e hf
                obtain ⟨r47, h45, y46, hf⟩ := cb_e hf
                refine e_callVi (pc := 147) (st := []) 12 C (ct_X12_sign y46) dX12_test_147 (by decide) t44 g1690 g1692 g60 g157 g1693 hd_X12_sign rfl ⟨Nat.le_of_ble_eq_true rfl, Nat.le_of_ble_eq_true rfl⟩ ⟨Nat.le_of_ble_eq_true rfl, Nat.le_of_ble_eq_true rfl⟩ rfl (Nat.le_of_ble_eq_true rfl) ?_
                refine e_bipush (v := (93 : Int32)) (pc := 150) C dX12_test_150 (by decide) ?_
                obtain ⟨j_164, ej_164, hf⟩ := nn_e hf
                have W_164 : ∀ (h_164 : AH), j_164 h_164 = some y → EE G p l e ({ frames := 10, cells := 0, slots := 0, locals := 215 } : Room) s m args below meth c (none, y) 0 0 164 [(0, .ref v0), (1, .int v1), (2, .int v2)] [] h_164 0 0 := by
                  intro h_164 hf
                  rw [ej_164] at hf
                  refine e_aload_n (pc := 164) C dX12_test_164 0 rfl rfl ?_
                  refine e_dup (pc := 165) C dX12_test_165 rfl ?_
                  obtain ⟨t48, hf⟩ := ck_e hf
                  refine e_geti (pc := 166) 12 33 C dX12_test_166 (by decide) (by decide) g1434 rfl t48 ?_
                  refine e_iconst (v := (1 : Int32)) (pc := 169) C dX12_test_169 (by decide) ?_
                  refine e_iadd (pc := 170) C dX12_test_170 ?_
                  refine e_puti (pc := 171) 12 33 C dX12_test_171 (by decide) (by decide) g1434 rfl rfl rfl rfl t48 ?_
                  obtain ⟨h49, eh49, hf⟩ := nn_e hf
                  refine e_hp eh49 ?_
                  have uh49 : m_t h49 = m_t h_164 := by rw [eh49]; exact rfl
                  refine e_aload_n (pc := 174) C dX12_test_174 0 rfl rfl ?_
                  refine e_dup (pc := 175) C dX12_test_175 rfl ?_
                  refine e_geti (pc := 176) 12 40 C dX12_test_176 (by decide) (by decide) g1441 rfl (e_mt uh49 t48) ?_
                  refine e_iconst (v := (1 : Int32)) (pc := 179) C dX12_test_179 (by decide) ?_
                  refine e_isub (pc := 180) C dX12_test_180 ?_
                  refine e_puti (pc := 181) 12 40 C dX12_test_181 (by decide) (by decide) g1441 rfl rfl rfl rfl (e_mt uh49 t48) ?_
                  obtain ⟨h50, eh50, hf⟩ := nn_e hf
                  refine e_hp eh50 ?_
                  have uh50 : m_t h50 = m_t h_164 := by rw [eh50]; exact uh49
                  refine e_aload_n (pc := 184) C dX12_test_184 0 rfl rfl ?_
                  refine e_dup (pc := 185) C dX12_test_185 rfl ?_
                  refine e_geti (pc := 186) 12 38 C dX12_test_186 (by decide) (by decide) g1439 rfl (e_mt uh50 t48) ?_
                  refine e_iconst (v := (1 : Int32)) (pc := 189) C dX12_test_189 (by decide) ?_
                  refine e_isub (pc := 190) C dX12_test_190 ?_
                  refine e_puti (pc := 191) 12 38 C dX12_test_191 (by decide) (by decide) g1439 rfl rfl rfl rfl (e_mt uh50 t48) ?_
                  obtain ⟨h51, eh51, hf⟩ := nn_e hf
                  refine e_hp eh51 ?_
                  have uh51 : m_t h51 = m_t h_164 := by rw [eh51]; exact uh50
                  refine e_goto (pc := 194) (tgt := 199) C dX12_test_194 (by decide) ?_
                  exact W_199 v1 v2 h51 hf
                rcases it_e hf with ⟨c52, hf⟩ | ⟨c52, hf⟩
                · refine e_icmp_eq (pc := 152) (tgt := 164) C dX12_test_152 (by decide) (fun _ => ?_) (fun q => absurd c52 q)
                  refine e_lv (lv2 := [(0, .ref v0), (1, .int v1), (2, .int v2)]) [2, 3, 4] rfl ?_
                  exact W_164 h45 hf
                · refine e_icmp_eq (pc := 152) (tgt := 164) C dX12_test_152 (by decide) (fun q => absurd q c52) (fun _ => ?_)
                  refine e_aload_n (pc := 155) C dX12_test_155 2 rfl rfl ?_
                  refine e_iconst (v := (0 : Int32)) (pc := 156) C dX12_test_156 (by decide) ?_
                  refine e_aload_n (pc := 157) C dX12_test_157 2 rfl rfl ?_
                  obtain ⟨t53, hf⟩ := ck_e hf
                  refine e_geti (pc := 158) 12 33 C dX12_test_158 (by decide) (by decide) g1434 rfl t53 ?_
                  obtain ⟨h54, y55, hf⟩ := ob_e hf
                  refine e_callVv (pc := 161) (st := []) 12 C (ct_X12_fails y55) dX12_test_161 (by decide) t53 g1710 g1712 g62 g157 g1713 hd_X12_fails rfl ⟨Nat.le_of_ble_eq_true rfl, Nat.le_of_ble_eq_true rfl⟩ ⟨Nat.le_of_ble_eq_true rfl, Nat.le_of_ble_eq_true rfl⟩ rfl (Nat.le_of_ble_eq_true rfl) ?_
                  refine e_lv (lv2 := [(0, .ref v0), (1, .int v1), (2, .int v2)]) [2, 3, 4] rfl ?_
                  exact W_164 h54 hf
              · refine e_icmp_ne (pc := 143) (tgt := 197) C dX12_test_143 (by decide) (fun _ => ?_) (fun q => absurd q c43)
                refine e_iconst (v := (0 : Int32)) (pc := 197) C dX12_test_197 (by decide) ?_
                refine e_istore_n (pc := 198) (lv2 := [(2, .int (0 : Int32)), (4, .int r19), (3, .int r15), (0, .ref v0), (1, .int v1)]) C hm dX12_test_198 rfl (by decide) rfl ?_
                refine e_lv (lv2 := [(0, .ref v0), (1, .int v1), (2, .int (0 : Int32))]) [3, 4, 0] rfl ?_
                exact W_199 v1 (0 : Int32) h40 hf
            · refine e_if_eq (pc := 79) (tgt := 131) C dX12_test_79 (by decide) (fun q => absurd q c35) (fun _ => ?_)
              refine e_lv (lv2 := [(0, .ref v0), (2, .int v2), (3, .int r15), (4, .int r19)]) [2, 4, 1, 0] rfl ?_
              exact W_82 () hf
          · refine e_if_ne (pc := 74) (tgt := 82) C dX12_test_74 (by decide) (fun _ => ?_) (fun q => absurd q c34)
            refine e_lv (lv2 := [(0, .ref v0), (2, .int v2), (3, .int r15), (4, .int r19)]) [2, 4, 1, 0] rfl ?_
            exact W_82 () hf
        · refine e_if_eq (pc := 21) (tgt := 40) C dX12_test_21 (by decide) (fun q => absurd q c6) (fun _ => ?_)
          refine e_aload_n (pc := 24) C dX12_test_24 0 rfl rfl ?_
          obtain ⟨r58, h56, y57, hf⟩ := cb_e hf
          refine e_callVi (pc := 25) (st := []) 12 C (ct_X12_fact y57) dX12_test_25 (by decide) t4 g1834 g1836 g85 g157 g1837 hd_X12_fact rfl ⟨Nat.le_of_ble_eq_true rfl, Nat.le_of_ble_eq_true rfl⟩ ⟨Nat.le_of_ble_eq_true rfl, Nat.le_of_ble_eq_true rfl⟩ rfl (Nat.le_of_ble_eq_true rfl) ?_
          obtain ⟨j_36, ej_36, hf⟩ := nn_e hf
          have W_36 : ∀ (s0_36 : Int32), j_36 s0_36 = some y → EE G p l e ({ frames := 10, cells := 0, slots := 0, locals := 215 } : Room) s m args below meth c (none, y) 0 0 36 [(0, .ref v0), (2, .int v2)] [.int s0_36] h56 0 0 := by
            intro s0_36 hf
            rw [ej_36] at hf
            refine e_istore_n (pc := 36) (lv2 := [(1, .int s0_36), (0, .ref v0), (2, .int v2)]) C hm dX12_test_36 rfl (by decide) rfl ?_
            refine e_goto (pc := 37) (tgt := 9) C dX12_test_37 (by decide) ?_
            refine e_lv (lv2 := [(0, .ref v0), (1, .int s0_36), (2, .int v2)]) [1, 0, 2] rfl ?_
            exact ih_9 s0_36 v2 h56 hf
          rcases it_e hf with ⟨c59, hf⟩ | ⟨c59, hf⟩
          · refine e_if_ne (pc := 28) (tgt := 35) C dX12_test_28 (by decide) (fun q => absurd c59 q) (fun _ => ?_)
            refine e_iconst (v := (1 : Int32)) (pc := 31) C dX12_test_31 (by decide) ?_
            refine e_goto (pc := 32) (tgt := 36) C dX12_test_32 (by decide) ?_
            refine e_lv (lv2 := [(0, .ref v0), (2, .int v2)]) [0, 2] rfl ?_
            exact W_36 (1 : Int32) hf
          · refine e_if_ne (pc := 28) (tgt := 35) C dX12_test_28 (by decide) (fun _ => ?_) (fun q => absurd q c59)
            refine e_iconst (v := (0 : Int32)) (pc := 35) C dX12_test_35 (by decide) ?_
            refine e_lv (lv2 := [(0, .ref v0), (2, .int v2)]) [0, 2] rfl ?_
            exact W_36 (0 : Int32) hf
      · refine e_if_ne (pc := 17) (tgt := 202) C dX12_test_17 (by decide) (fun _ => ?_) (fun q => absurd q c5)
        obtain rfl := so_e hf
        exact e_vret (pc := 202) C hr dX12_test_202 (Nat.le_of_ble_eq_true rfl) (Nat.le_of_ble_eq_true rfl)
set_option maxHeartbeats 4000000 in
set_option maxRecDepth 100000 in
theorem ct_X12_test {G : GG} {l : Launch} {v0 : Nat} {h : AH} {y : AH} (hf : f_X12_test G v0 h = some y) : Ct G l yX12_test cX12_test 5 none 10 215 0 0 [.ref v0] h (none, y) := by
  refine ct_of (by decide) (Nat.le_of_ble_eq_true rfl) ?_
  intro p e s m args below meth c C hm hr hin
  have C : Cx G cX12_test RX12 p s m args meth c := C
  refine e_lv (lv2 := [(0, .ref v0)]) [0] rfl ?_
  unfold f_X12_test at hf
  refine e_aload_n (pc := 0) C dX12_test_0 0 rfl rfl ?_
  refine e_iconst (v := (0 : Int32)) (pc := 1) C dX12_test_1 (by decide) ?_
  obtain ⟨t1, hf⟩ := ck_e hf
  refine e_puti (pc := 2) 12 40 C dX12_test_2 (by decide) (by decide) g1441 rfl rfl rfl rfl t1 ?_
  obtain ⟨h2, eh2, hf⟩ := nn_e hf
  refine e_hp eh2 ?_
  have uh2 : m_t h2 = m_t h := by rw [eh2]; exact rfl
  refine e_iconst (v := (1 : Int32)) (pc := 5) C dX12_test_5 (by decide) ?_
  refine e_istore_n (pc := 6) (lv2 := [(1, .int (1 : Int32)), (0, .ref v0)]) C hm dX12_test_6 rfl (by decide) rfl ?_
  refine e_iconst (v := (1 : Int32)) (pc := 7) C dX12_test_7 (by decide) ?_
  refine e_istore_n (pc := 8) (lv2 := [(2, .int (1 : Int32)), (1, .int (1 : Int32)), (0, .ref v0)]) C hm dX12_test_8 rfl (by decide) rfl ?_
  refine e_lv (lv2 := [(0, .ref v0), (1, .int (1 : Int32)), (2, .int (1 : Int32))]) [2, 1, 0] rfl ?_
  exact el_X12_test_9 C hm hr hin bN (1 : Int32) (1 : Int32) h2 hf
theorem dX12_amount_0 : decode cX12_amount 0 = .ok (.aload_n 0, 1) := by decide +kernel
theorem dX12_amount_1 : decode cX12_amount 1 = .ok (.invokevirtual 266, 3) := by decide +kernel
theorem dX12_amount_4 : decode cX12_amount 4 = .ok (.aload_n 0, 1) := by decide +kernel
theorem dX12_amount_5 : decode cX12_amount 5 = .ok (.getfield 246, 3) := by decide +kernel
theorem dX12_amount_8 : decode cX12_amount 8 = .ok (.istore_n 3, 1) := by decide +kernel
theorem dX12_amount_9 : decode cX12_amount 9 = .ok (.aload_n 0, 1) := by decide +kernel
theorem dX12_amount_10 : decode cX12_amount 10 = .ok (.getfield 243, 3) := by decide +kernel
theorem dX12_amount_13 : decode cX12_amount 13 = .ok (.ifCond .ne 13, 3) := by decide +kernel
theorem dX12_amount_16 : decode cX12_amount 16 = .ok (.aload_n 0, 1) := by decide +kernel
theorem dX12_amount_17 : decode cX12_amount 17 = .ok (.ldc_w 290, 3) := by decide +kernel
theorem dX12_amount_20 : decode cX12_amount 20 = .ok (.invokevirtual 291, 3) := by decide +kernel
theorem dX12_amount_23 : decode cX12_amount 23 = .ok (.goto 4, 3) := by decide +kernel
theorem dX12_amount_26 : decode cX12_amount 26 = .ok (.iconst 0, 1) := by decide +kernel
theorem dX12_amount_27 : decode cX12_amount 27 = .ok (.istore 4, 2) := by decide +kernel
theorem dX12_amount_29 : decode cX12_amount 29 = .ok (.aload_n 0, 1) := by decide +kernel
theorem dX12_amount_30 : decode cX12_amount 30 = .ok (.getfield 243, 3) := by decide +kernel
theorem dX12_amount_33 : decode cX12_amount 33 = .ok (.ifCond .ne 22, 3) := by decide +kernel
theorem dX12_amount_36 : decode cX12_amount 36 = .ok (.iload 4, 2) := by decide +kernel
theorem dX12_amount_38 : decode cX12_amount 38 = .ok (.i2l, 1) := by decide +kernel
theorem dX12_amount_39 : decode cX12_amount 39 = .ok (.iload_n 1, 1) := by decide +kernel
theorem dX12_amount_40 : decode cX12_amount 40 = .ok (.i2l, 1) := by decide +kernel
theorem dX12_amount_41 : decode cX12_amount 41 = .ok (.iload_n 2, 1) := by decide +kernel
theorem dX12_amount_42 : decode cX12_amount 42 = .ok (.i2l, 1) := by decide +kernel
theorem dX12_amount_43 : decode cX12_amount 43 = .ok (.invokestatic 206, 3) := by decide +kernel
theorem dX12_amount_46 : decode cX12_amount 46 = .ok (.ifCond .ne 9, 3) := by decide +kernel
theorem dX12_amount_49 : decode cX12_amount 49 = .ok (.aload_n 0, 1) := by decide +kernel
theorem dX12_amount_50 : decode cX12_amount 50 = .ok (.iconst 1, 1) := by decide +kernel
theorem dX12_amount_51 : decode cX12_amount 51 = .ok (.iload_n 3, 1) := by decide +kernel
theorem dX12_amount_52 : decode cX12_amount 52 = .ok (.invokevirtual 282, 3) := by decide +kernel
theorem dX12_amount_55 : decode cX12_amount 55 = .ok (.iload 4, 2) := by decide +kernel
theorem dX12_amount_57 : decode cX12_amount 57 = .ok (.ireturn, 1) := by decide +kernel
def f_X12_amount (G : GG) (v0 : Nat) (v1 : Int32) (v2 : Int32) (h : AH) : Option (Int32 × AH) :=
ck (m_t h v0 = .inl 12) <|
ob (f_X12_blanks G v0 h) fun h2 =>
ck (m_t h2 v0 = .inl 12) <|
nn (m_i h2 v0 33) fun x5 =>
nn (fun (s0_27 : Int32) (h_27 : AH) => (ck (m_t h_27 v0 = .inl 12) <|
if (m_i h_27 v0 34) = 0 then (cb (f_X12_in G s0_27.toInt64 v1.toInt64 v2.toInt64 h_27) fun r10 h8 =>
if r10 = 0 then (ck (m_t h8 v0 = .inl 12) <|
ob (f_X12_fails G v0 (1 : Int32) x5 h8) fun h13 =>
some (s0_27, h13)) else
some (s0_27, h8)) else
some (s0_27, h_27))) fun j_27 =>
if (m_i h2 v0 34) = 0 then (cb (f_X12_digits G v0 (99999 : Int32) h2) fun r18 h16 =>
j_27 r18 h16) else
j_27 (0 : Int32) h2
set_option maxHeartbeats 4000000 in
set_option maxRecDepth 100000 in
theorem ct_X12_amount {G : GG} {l : Launch} {v0 : Nat} {v1 : Int32} {v2 : Int32} {h : AH} {y : Int32 × AH} (hf : f_X12_amount G v0 v1 v2 h = some y) : Ct G l yX12_amount cX12_amount 5 (some .int) 3 68 0 0 [.ref v0, .int v1, .int v2] h (some (.int y.1), y.2) := by
  refine ct_of (by decide) (Nat.le_of_ble_eq_true rfl) ?_
  intro p e s m args below meth c C hm hr hin
  have C : Cx G cX12_amount RX12 p s m args meth c := C
  refine e_lv (lv2 := [(0, .ref v0), (1, .int v1), (2, .int v2)]) [0, 1, 2] rfl ?_
  unfold f_X12_amount at hf
  refine e_aload_n (pc := 0) C dX12_amount_0 0 rfl rfl ?_
  obtain ⟨t1, hf⟩ := ck_e hf
  obtain ⟨h2, y3, hf⟩ := ob_e hf
  refine e_callVv (pc := 1) (st := []) 12 C (ct_X12_blanks y3) dX12_amount_1 (by decide) t1 g1686 g1688 g59 g157 g1689 hd_X12_blanks rfl ⟨Nat.le_of_ble_eq_true rfl, Nat.le_of_ble_eq_true rfl⟩ ⟨Nat.le_of_ble_eq_true rfl, Nat.le_of_ble_eq_true rfl⟩ rfl (Nat.le_of_ble_eq_true rfl) ?_
  refine e_aload_n (pc := 4) C dX12_amount_4 0 rfl rfl ?_
  obtain ⟨t4, hf⟩ := ck_e hf
  refine e_geti (pc := 5) 12 33 C dX12_amount_5 (by decide) (by decide) g1434 rfl t4 ?_
  obtain ⟨x5, ex5, hf⟩ := nn_e hf
  refine e_topi ex5 ?_
  refine e_istore_n (pc := 8) (lv2 := [(3, .int x5), (0, .ref v0), (1, .int v1), (2, .int v2)]) C hm dX12_amount_8 rfl (by decide) rfl ?_
  refine e_aload_n (pc := 9) C dX12_amount_9 1 rfl rfl ?_
  refine e_geti (pc := 10) 12 34 C dX12_amount_10 (by decide) (by decide) g1435 rfl t4 ?_
  obtain ⟨j_27, ej_27, hf⟩ := nn_e hf
  have W_27 : ∀ (s0_27 : Int32) (h_27 : AH), j_27 s0_27 h_27 = some y → EE G p l e ({ frames := 3, cells := 0, slots := 0, locals := 68 } : Room) s m args below meth c (some (.int y.1), y.2) 0 0 27 [(0, .ref v0), (1, .int v1), (2, .int v2), (3, .int x5)] [.int s0_27] h_27 0 0 := by
    intro s0_27 h_27 hf
    rw [ej_27] at hf
    refine e_istore (pc := 27) (lv2 := [(4, .int s0_27), (0, .ref v0), (1, .int v1), (2, .int v2), (3, .int x5)]) C hm dX12_amount_27 (by decide) rfl ?_
    refine e_aload_n (pc := 29) C dX12_amount_29 1 rfl rfl ?_
    obtain ⟨t6, hf⟩ := ck_e hf
    refine e_geti (pc := 30) 12 34 C dX12_amount_30 (by decide) (by decide) g1435 rfl t6 ?_
    rcases it_e hf with ⟨c7, hf⟩ | ⟨c7, hf⟩
    · refine e_if_ne (pc := 33) (tgt := 55) C dX12_amount_33 (by decide) (fun q => absurd c7 q) (fun _ => ?_)
      refine e_iload (pc := 36) C dX12_amount_36 0 rfl ?_
      refine e_i2l (pc := 38) C dX12_amount_38 ?_
      refine e_iload_n (pc := 39) C dX12_amount_39 2 rfl rfl ?_
      refine e_i2l (pc := 40) C dX12_amount_40 ?_
      refine e_iload_n (pc := 41) C dX12_amount_41 3 rfl rfl ?_
      refine e_i2l (pc := 42) C dX12_amount_42 ?_
      obtain ⟨r10, h8, y9, hf⟩ := cb_e hf
      refine e_callSi (pc := 43) (st := []) C (ct_X12_in y9) dX12_amount_43 g1737 g1738 g157 g1739 hd_X12_in rfl ⟨Nat.le_of_ble_eq_true rfl, Nat.le_of_ble_eq_true rfl⟩ ⟨Nat.le_of_ble_eq_true rfl, Nat.le_of_ble_eq_true rfl⟩ rfl (Nat.le_of_ble_eq_true rfl) ?_
      rcases it_e hf with ⟨c11, hf⟩ | ⟨c11, hf⟩
      · refine e_if_ne (pc := 46) (tgt := 55) C dX12_amount_46 (by decide) (fun q => absurd c11 q) (fun _ => ?_)
        refine e_aload_n (pc := 49) C dX12_amount_49 1 rfl rfl ?_
        refine e_iconst (v := (1 : Int32)) (pc := 50) C dX12_amount_50 (by decide) ?_
        refine e_iload_n (pc := 51) C dX12_amount_51 4 rfl rfl ?_
        obtain ⟨t12, hf⟩ := ck_e hf
        obtain ⟨h13, y14, hf⟩ := ob_e hf
        refine e_callVv (pc := 52) (st := []) 12 C (ct_X12_fails y14) dX12_amount_52 (by decide) t12 g1710 g1712 g62 g157 g1713 hd_X12_fails rfl ⟨Nat.le_of_ble_eq_true rfl, Nat.le_of_ble_eq_true rfl⟩ ⟨Nat.le_of_ble_eq_true rfl, Nat.le_of_ble_eq_true rfl⟩ rfl (Nat.le_of_ble_eq_true rfl) ?_
        refine e_iload (pc := 55) C dX12_amount_55 0 rfl ?_
        obtain rfl := so_e hf
        exact e_iret (pc := 57) C hr dX12_amount_57 (Nat.le_of_ble_eq_true rfl) (Nat.le_of_ble_eq_true rfl)
      · refine e_if_ne (pc := 46) (tgt := 55) C dX12_amount_46 (by decide) (fun _ => ?_) (fun q => absurd q c11)
        refine e_iload (pc := 55) C dX12_amount_55 0 rfl ?_
        obtain rfl := so_e hf
        exact e_iret (pc := 57) C hr dX12_amount_57 (Nat.le_of_ble_eq_true rfl) (Nat.le_of_ble_eq_true rfl)
    · refine e_if_ne (pc := 33) (tgt := 55) C dX12_amount_33 (by decide) (fun _ => ?_) (fun q => absurd q c7)
      refine e_iload (pc := 55) C dX12_amount_55 0 rfl ?_
      obtain rfl := so_e hf
      exact e_iret (pc := 57) C hr dX12_amount_57 (Nat.le_of_ble_eq_true rfl) (Nat.le_of_ble_eq_true rfl)
  rcases it_e hf with ⟨c15, hf⟩ | ⟨c15, hf⟩
  · refine e_if_ne (pc := 13) (tgt := 26) C dX12_amount_13 (by decide) (fun q => absurd c15 q) (fun _ => ?_)
    refine e_aload_n (pc := 16) C dX12_amount_16 1 rfl rfl ?_
    refine e_ldcw (pc := 17) C dX12_amount_17 g1726 ?_
    obtain ⟨r18, h16, y17, hf⟩ := cb_e hf
    refine e_callVi (pc := 20) (st := []) 12 C (ct_X12_digits y17) dX12_amount_20 (by decide) t4 g1727 g1729 g66 g157 g1730 hd_X12_digits rfl ⟨Nat.le_of_ble_eq_true rfl, Nat.le_of_ble_eq_true rfl⟩ ⟨Nat.le_of_ble_eq_true rfl, Nat.le_of_ble_eq_true rfl⟩ rfl (Nat.le_of_ble_eq_true rfl) ?_
    refine e_goto (pc := 23) (tgt := 27) C dX12_amount_23 (by decide) ?_
    refine e_lv (lv2 := [(0, .ref v0), (1, .int v1), (2, .int v2), (3, .int x5)]) [1, 2, 3, 0] rfl ?_
    exact W_27 r18 h16 hf
  · refine e_if_ne (pc := 13) (tgt := 26) C dX12_amount_13 (by decide) (fun _ => ?_) (fun q => absurd q c15)
    refine e_iconst (v := (0 : Int32)) (pc := 26) C dX12_amount_26 (by decide) ?_
    refine e_lv (lv2 := [(0, .ref v0), (1, .int v1), (2, .int v2), (3, .int x5)]) [1, 2, 3, 0] rfl ?_
    exact W_27 (0 : Int32) h2 hf
theorem dX12_trainWord_0 : decode cX12_trainWord 0 = .ok (.iload_n 0, 1) := by decide +kernel
theorem dX12_trainWord_1 : decode cX12_trainWord 1 = .ok (.tableswitch 61 0 5 #[39, 43, 46, 50, 54, 58], 39) := by decide +kernel
theorem dX12_trainWord_40 : decode cX12_trainWord 40 = .ok (.ldc_w 341, 3) := by decide +kernel
theorem dX12_trainWord_43 : decode cX12_trainWord 43 = .ok (.areturn, 1) := by decide +kernel
theorem dX12_trainWord_44 : decode cX12_trainWord 44 = .ok (.ldc 217, 2) := by decide +kernel
theorem dX12_trainWord_46 : decode cX12_trainWord 46 = .ok (.areturn, 1) := by decide +kernel
theorem dX12_trainWord_47 : decode cX12_trainWord 47 = .ok (.ldc_w 343, 3) := by decide +kernel
theorem dX12_trainWord_50 : decode cX12_trainWord 50 = .ok (.areturn, 1) := by decide +kernel
theorem dX12_trainWord_51 : decode cX12_trainWord 51 = .ok (.ldc_w 345, 3) := by decide +kernel
theorem dX12_trainWord_54 : decode cX12_trainWord 54 = .ok (.areturn, 1) := by decide +kernel
theorem dX12_trainWord_55 : decode cX12_trainWord 55 = .ok (.ldc_w 347, 3) := by decide +kernel
theorem dX12_trainWord_58 : decode cX12_trainWord 58 = .ok (.areturn, 1) := by decide +kernel
theorem dX12_trainWord_59 : decode cX12_trainWord 59 = .ok (.ldc 223, 2) := by decide +kernel
theorem dX12_trainWord_61 : decode cX12_trainWord 61 = .ok (.areturn, 1) := by decide +kernel
theorem dX12_trainWord_62 : decode cX12_trainWord 62 = .ok (.ldc_w 349, 3) := by decide +kernel
theorem dX12_trainWord_65 : decode cX12_trainWord 65 = .ok (.areturn, 1) := by decide +kernel
def f_X12_trainWord (G : GG) (v0 : Int32) (h : AH) : Option (Nat × AH) :=
if v0 = (0 : Int32) then (some ((G.2.2.2.1 2), h)) else
if v0 = (1 : Int32) then (some ((G.2.2.2.1 3), h)) else
if v0 = (2 : Int32) then (some ((G.2.2.2.1 4), h)) else
if v0 = (3 : Int32) then (some ((G.2.2.2.1 5), h)) else
if v0 = (4 : Int32) then (some ((G.2.2.2.1 6), h)) else
if v0 = (5 : Int32) then (some ((G.2.2.2.1 7), h)) else
some ((G.2.2.2.1 8), h)
set_option maxHeartbeats 4000000 in
set_option maxRecDepth 100000 in
theorem ct_X12_trainWord {G : GG} {l : Launch} {v0 : Int32} {h : AH} {y : Nat × AH} (hf : f_X12_trainWord G v0 h = some y) : Ct G l yX12_trainWord cX12_trainWord 1 (some (.object "java/lang/String")) 0 0 0 0 [.int v0] h (some (.ref y.1), y.2) := by
  refine ct_of (by decide) (Nat.le_of_ble_eq_true rfl) ?_
  intro p e s m args below meth c C hm hr hin
  have C : Cx G cX12_trainWord RX12 p s m args meth c := C
  refine e_lv (lv2 := [(0, .int v0)]) [0] rfl ?_
  unfold f_X12_trainWord at hf
  refine e_iload_n (pc := 0) C dX12_trainWord_0 0 rfl rfl ?_
  rcases it_e hf with ⟨c1, hf⟩ | ⟨c1, hf⟩
  · refine e_tabK (pc := 1) (tgt := 40) (0 : Int32) c1 C dX12_trainWord_1 (by decide) (by decide) rfl (by decide) ?_
    refine e_ldcSw (pc := 40) C dX12_trainWord_40 2 rfl ?_
    obtain rfl := so_e hf
    exact e_aret (pc := 43) (r := some ((G.2.2.2.1 2))) C hr (by simp) dX12_trainWord_43 (Nat.le_of_ble_eq_true rfl) (Nat.le_of_ble_eq_true rfl)
  rcases it_e hf with ⟨c2, hf⟩ | ⟨c2, hf⟩
  · refine e_tabK (pc := 1) (tgt := 44) (1 : Int32) c2 C dX12_trainWord_1 (by decide) (by decide) rfl (by decide) ?_
    refine e_ldcS (pc := 44) C dX12_trainWord_44 3 rfl ?_
    obtain rfl := so_e hf
    exact e_aret (pc := 46) (r := some ((G.2.2.2.1 3))) C hr (by simp) dX12_trainWord_46 (Nat.le_of_ble_eq_true rfl) (Nat.le_of_ble_eq_true rfl)
  rcases it_e hf with ⟨c3, hf⟩ | ⟨c3, hf⟩
  · refine e_tabK (pc := 1) (tgt := 47) (2 : Int32) c3 C dX12_trainWord_1 (by decide) (by decide) rfl (by decide) ?_
    refine e_ldcSw (pc := 47) C dX12_trainWord_47 4 rfl ?_
    obtain rfl := so_e hf
    exact e_aret (pc := 50) (r := some ((G.2.2.2.1 4))) C hr (by simp) dX12_trainWord_50 (Nat.le_of_ble_eq_true rfl) (Nat.le_of_ble_eq_true rfl)
  rcases it_e hf with ⟨c4, hf⟩ | ⟨c4, hf⟩
  · refine e_tabK (pc := 1) (tgt := 51) (3 : Int32) c4 C dX12_trainWord_1 (by decide) (by decide) rfl (by decide) ?_
    refine e_ldcSw (pc := 51) C dX12_trainWord_51 5 rfl ?_
    obtain rfl := so_e hf
    exact e_aret (pc := 54) (r := some ((G.2.2.2.1 5))) C hr (by simp) dX12_trainWord_54 (Nat.le_of_ble_eq_true rfl) (Nat.le_of_ble_eq_true rfl)
  rcases it_e hf with ⟨c5, hf⟩ | ⟨c5, hf⟩
  · refine e_tabK (pc := 1) (tgt := 55) (4 : Int32) c5 C dX12_trainWord_1 (by decide) (by decide) rfl (by decide) ?_
    refine e_ldcSw (pc := 55) C dX12_trainWord_55 6 rfl ?_
    obtain rfl := so_e hf
    exact e_aret (pc := 58) (r := some ((G.2.2.2.1 6))) C hr (by simp) dX12_trainWord_58 (Nat.le_of_ble_eq_true rfl) (Nat.le_of_ble_eq_true rfl)
  rcases it_e hf with ⟨c6, hf⟩ | ⟨c6, hf⟩
  · refine e_tabK (pc := 1) (tgt := 59) (5 : Int32) c6 C dX12_trainWord_1 (by decide) (by decide) rfl (by decide) ?_
    refine e_ldcS (pc := 59) C dX12_trainWord_59 7 rfl ?_
    obtain rfl := so_e hf
    exact e_aret (pc := 61) (r := some ((G.2.2.2.1 7))) C hr (by simp) dX12_trainWord_61 (Nat.le_of_ble_eq_true rfl) (Nat.le_of_ble_eq_true rfl)
  refine e_tabOut (pc := 1) (tgt := 62) C dX12_trainWord_1 (by have g0 := i_ne 0 (by decide) c1; have g1 := i_ne 1 (by decide) c2; have g2 := i_ne 2 (by decide) c3; have g3 := i_ne 3 (by decide) c4; have g4 := i_ne 4 (by decide) c5; have g5 := i_ne 5 (by decide) c6; omega) (by decide) ?_
  refine e_ldcSw (pc := 62) C dX12_trainWord_62 8 rfl ?_
  obtain rfl := so_e hf
  exact e_aret (pc := 65) (r := some ((G.2.2.2.1 8))) C hr (by simp) dX12_trainWord_65 (Nat.le_of_ble_eq_true rfl) (Nat.le_of_ble_eq_true rfl)
theorem dX12_onePerson_0 : decode cX12_onePerson 0 = .ok (.aload_n 0, 1) := by decide +kernel
theorem dX12_onePerson_1 : decode cX12_onePerson 1 = .ok (.iconst 0, 1) := by decide +kernel
theorem dX12_onePerson_2 : decode cX12_onePerson 2 = .ok (.aload_n 0, 1) := by decide +kernel
theorem dX12_onePerson_3 : decode cX12_onePerson 3 = .ok (.getfield 67, 3) := by decide +kernel
theorem dX12_onePerson_6 : decode cX12_onePerson 6 = .ok (.bipush 6, 2) := by decide +kernel
theorem dX12_onePerson_8 : decode cX12_onePerson 8 = .ok (.iaload, 1) := by decide +kernel
theorem dX12_onePerson_9 : decode cX12_onePerson 9 = .ok (.iconst 1, 1) := by decide +kernel
theorem dX12_onePerson_10 : decode cX12_onePerson 10 = .ok (.isub, 1) := by decide +kernel
theorem dX12_onePerson_11 : decode cX12_onePerson 11 = .ok (.invokevirtual 351, 3) := by decide +kernel
theorem dX12_onePerson_14 : decode cX12_onePerson 14 = .ok (.ireturn, 1) := by decide +kernel
def f_X12_onePerson (G : GG) (v0 : Nat) (h : AH) : Option (Int32 × AH) :=
ck (m_t h v0 = .inl 12) <|
ob (m_r h v0 20) fun b2 =>
ck (ixb h b2 .int (6 : Int32) = true) <|
cb (f_X12_amount G v0 (0 : Int32) ((m_i h b2 (6 : Int32).toNatClampNeg) - (1 : Int32)) h) fun r7 h5 =>
some (r7, h5)
set_option maxHeartbeats 4000000 in
set_option maxRecDepth 100000 in
theorem ct_X12_onePerson {G : GG} {l : Launch} {v0 : Nat} {h : AH} {y : Int32 × AH} (hf : f_X12_onePerson G v0 h = some y) : Ct G l yX12_onePerson cX12_onePerson 1 (some .int) 4 92 0 0 [.ref v0] h (some (.int y.1), y.2) := by
  refine ct_of (by decide) (Nat.le_of_ble_eq_true rfl) ?_
  intro p e s m args below meth c C hm hr hin
  have C : Cx G cX12_onePerson RX12 p s m args meth c := C
  refine e_lv (lv2 := [(0, .ref v0)]) [0] rfl ?_
  unfold f_X12_onePerson at hf
  refine e_aload_n (pc := 0) C dX12_onePerson_0 0 rfl rfl ?_
  refine e_iconst (v := (0 : Int32)) (pc := 1) C dX12_onePerson_1 (by decide) ?_
  refine e_aload_n (pc := 2) C dX12_onePerson_2 0 rfl rfl ?_
  obtain ⟨t1, hf⟩ := ck_e hf
  refine e_getr (pc := 3) 12 20 C dX12_onePerson_3 (by decide) (by decide) g1421 rfl t1 ?_
  obtain ⟨b2, eb2, hf⟩ := ob_e hf
  refine e_rf eb2 ?_
  refine e_bipush (v := (6 : Int32)) (pc := 6) C dX12_onePerson_6 (by decide) ?_
  obtain ⟨q3, hf⟩ := ck_e hf
  obtain ⟨n4, tn4, in4⟩ := ix_e q3
  refine e_iald (pc := 8) C dX12_onePerson_8 tn4 in4 ?_
  refine e_iconst (v := (1 : Int32)) (pc := 9) C dX12_onePerson_9 (by decide) ?_
  refine e_isub (pc := 10) C dX12_onePerson_10 ?_
  obtain ⟨r7, h5, y6, hf⟩ := cb_e hf
  refine e_callVi (pc := 11) (st := []) 12 C (ct_X12_amount y6) dX12_onePerson_11 (by decide) t1 g1722 g1724 g65 g157 g1725 hd_X12_amount rfl ⟨Nat.le_of_ble_eq_true rfl, Nat.le_of_ble_eq_true rfl⟩ ⟨Nat.le_of_ble_eq_true rfl, Nat.le_of_ble_eq_true rfl⟩ rfl (Nat.le_of_ble_eq_true rfl) ?_
  obtain rfl := so_e hf
  exact e_iret (pc := 14) C hr dX12_onePerson_14 (Nat.le_of_ble_eq_true rfl) (Nat.le_of_ble_eq_true rfl)
theorem dX12_readsPerson_0 : decode cX12_readsPerson 0 = .ok (.aload_n 0, 1) := by decide +kernel
theorem dX12_readsPerson_1 : decode cX12_readsPerson 1 = .ok (.getfield 67, 3) := by decide +kernel
theorem dX12_readsPerson_4 : decode cX12_readsPerson 4 = .ok (.bipush 6, 2) := by decide +kernel
theorem dX12_readsPerson_6 : decode cX12_readsPerson 6 = .ok (.iaload, 1) := by decide +kernel
theorem dX12_readsPerson_7 : decode cX12_readsPerson 7 = .ok (.istore_n 1, 1) := by decide +kernel
theorem dX12_readsPerson_8 : decode cX12_readsPerson 8 = .ok (.aload_n 0, 1) := by decide +kernel
theorem dX12_readsPerson_9 : decode cX12_readsPerson 9 = .ok (.getfield 70, 3) := by decide +kernel
theorem dX12_readsPerson_12 : decode cX12_readsPerson 12 = .ok (.iload_n 1, 1) := by decide +kernel
theorem dX12_readsPerson_13 : decode cX12_readsPerson 13 = .ok (.aload_n 0, 1) := by decide +kernel
theorem dX12_readsPerson_14 : decode cX12_readsPerson 14 = .ok (.iconst 0, 1) := by decide +kernel
theorem dX12_readsPerson_15 : decode cX12_readsPerson 15 = .ok (.bipush 7, 2) := by decide +kernel
theorem dX12_readsPerson_17 : decode cX12_readsPerson 17 = .ok (.invokevirtual 351, 3) := by decide +kernel
theorem dX12_readsPerson_20 : decode cX12_readsPerson 20 = .ok (.iastore, 1) := by decide +kernel
theorem dX12_readsPerson_21 : decode cX12_readsPerson 21 = .ok (.aload_n 0, 1) := by decide +kernel
theorem dX12_readsPerson_22 : decode cX12_readsPerson 22 = .ok (.getfield 73, 3) := by decide +kernel
theorem dX12_readsPerson_25 : decode cX12_readsPerson 25 = .ok (.iload_n 1, 1) := by decide +kernel
theorem dX12_readsPerson_26 : decode cX12_readsPerson 26 = .ok (.aload_n 0, 1) := by decide +kernel
theorem dX12_readsPerson_27 : decode cX12_readsPerson 27 = .ok (.iconst 0, 1) := by decide +kernel
theorem dX12_readsPerson_28 : decode cX12_readsPerson 28 = .ok (.sipush 239, 3) := by decide +kernel
theorem dX12_readsPerson_31 : decode cX12_readsPerson 31 = .ok (.invokevirtual 351, 3) := by decide +kernel
theorem dX12_readsPerson_34 : decode cX12_readsPerson 34 = .ok (.iastore, 1) := by decide +kernel
theorem dX12_readsPerson_35 : decode cX12_readsPerson 35 = .ok (.aload_n 0, 1) := by decide +kernel
theorem dX12_readsPerson_36 : decode cX12_readsPerson 36 = .ok (.getfield 76, 3) := by decide +kernel
theorem dX12_readsPerson_39 : decode cX12_readsPerson 39 = .ok (.iload_n 1, 1) := by decide +kernel
theorem dX12_readsPerson_40 : decode cX12_readsPerson 40 = .ok (.aload_n 0, 1) := by decide +kernel
theorem dX12_readsPerson_41 : decode cX12_readsPerson 41 = .ok (.aload_n 0, 1) := by decide +kernel
theorem dX12_readsPerson_42 : decode cX12_readsPerson 42 = .ok (.getfield 73, 3) := by decide +kernel
theorem dX12_readsPerson_45 : decode cX12_readsPerson 45 = .ok (.iload_n 1, 1) := by decide +kernel
theorem dX12_readsPerson_46 : decode cX12_readsPerson 46 = .ok (.iaload, 1) := by decide +kernel
theorem dX12_readsPerson_47 : decode cX12_readsPerson 47 = .ok (.iconst 1, 1) := by decide +kernel
theorem dX12_readsPerson_48 : decode cX12_readsPerson 48 = .ok (.iadd, 1) := by decide +kernel
theorem dX12_readsPerson_49 : decode cX12_readsPerson 49 = .ok (.sipush 240, 3) := by decide +kernel
theorem dX12_readsPerson_52 : decode cX12_readsPerson 52 = .ok (.invokevirtual 351, 3) := by decide +kernel
theorem dX12_readsPerson_55 : decode cX12_readsPerson 55 = .ok (.iastore, 1) := by decide +kernel
theorem dX12_readsPerson_56 : decode cX12_readsPerson 56 = .ok (.aload_n 0, 1) := by decide +kernel
theorem dX12_readsPerson_57 : decode cX12_readsPerson 57 = .ok (.getfield 79, 3) := by decide +kernel
theorem dX12_readsPerson_60 : decode cX12_readsPerson 60 = .ok (.iload_n 1, 1) := by decide +kernel
theorem dX12_readsPerson_61 : decode cX12_readsPerson 61 = .ok (.aload_n 0, 1) := by decide +kernel
theorem dX12_readsPerson_62 : decode cX12_readsPerson 62 = .ok (.iconst 0, 1) := by decide +kernel
theorem dX12_readsPerson_63 : decode cX12_readsPerson 63 = .ok (.bipush 60, 2) := by decide +kernel
theorem dX12_readsPerson_65 : decode cX12_readsPerson 65 = .ok (.invokevirtual 351, 3) := by decide +kernel
theorem dX12_readsPerson_68 : decode cX12_readsPerson 68 = .ok (.iastore, 1) := by decide +kernel
theorem dX12_readsPerson_69 : decode cX12_readsPerson 69 = .ok (.aload_n 0, 1) := by decide +kernel
theorem dX12_readsPerson_70 : decode cX12_readsPerson 70 = .ok (.getfield 82, 3) := by decide +kernel
theorem dX12_readsPerson_73 : decode cX12_readsPerson 73 = .ok (.iload_n 1, 1) := by decide +kernel
theorem dX12_readsPerson_74 : decode cX12_readsPerson 74 = .ok (.aload_n 0, 1) := by decide +kernel
theorem dX12_readsPerson_75 : decode cX12_readsPerson 75 = .ok (.iconst 0, 1) := by decide +kernel
theorem dX12_readsPerson_76 : decode cX12_readsPerson 76 = .ok (.bipush 20, 2) := by decide +kernel
theorem dX12_readsPerson_78 : decode cX12_readsPerson 78 = .ok (.invokevirtual 351, 3) := by decide +kernel
theorem dX12_readsPerson_81 : decode cX12_readsPerson 81 = .ok (.iastore, 1) := by decide +kernel
theorem dX12_readsPerson_82 : decode cX12_readsPerson 82 = .ok (.aload_n 0, 1) := by decide +kernel
theorem dX12_readsPerson_83 : decode cX12_readsPerson 83 = .ok (.getfield 85, 3) := by decide +kernel
theorem dX12_readsPerson_86 : decode cX12_readsPerson 86 = .ok (.iload_n 1, 1) := by decide +kernel
theorem dX12_readsPerson_87 : decode cX12_readsPerson 87 = .ok (.iconst 0, 1) := by decide +kernel
theorem dX12_readsPerson_88 : decode cX12_readsPerson 88 = .ok (.iastore, 1) := by decide +kernel
theorem dX12_readsPerson_89 : decode cX12_readsPerson 89 = .ok (.aload_n 0, 1) := by decide +kernel
theorem dX12_readsPerson_90 : decode cX12_readsPerson 90 = .ok (.getfield 67, 3) := by decide +kernel
theorem dX12_readsPerson_93 : decode cX12_readsPerson 93 = .ok (.bipush 6, 2) := by decide +kernel
theorem dX12_readsPerson_95 : decode cX12_readsPerson 95 = .ok (.dup2, 1) := by decide +kernel
theorem dX12_readsPerson_96 : decode cX12_readsPerson 96 = .ok (.iaload, 1) := by decide +kernel
theorem dX12_readsPerson_97 : decode cX12_readsPerson 97 = .ok (.iconst 1, 1) := by decide +kernel
theorem dX12_readsPerson_98 : decode cX12_readsPerson 98 = .ok (.iadd, 1) := by decide +kernel
theorem dX12_readsPerson_99 : decode cX12_readsPerson 99 = .ok (.iastore, 1) := by decide +kernel
theorem dX12_readsPerson_100 : decode cX12_readsPerson 100 = .ok (.return_, 1) := by decide +kernel
def f_X12_readsPerson (G : GG) (v0 : Nat) (h : AH) : Option (AH) :=
ck (m_t h v0 = .inl 12) <|
ob (m_r h v0 20) fun b2 =>
ck (ixb h b2 .int (6 : Int32) = true) <|
nn (m_i h b2 (6 : Int32).toNatClampNeg) fun x5 =>
ob (m_r h v0 21) fun b6 =>
cb (f_X12_amount G v0 (0 : Int32) (7 : Int32) h) fun r9 h7 =>
ck (ixb h7 b6 .int x5 = true) <|
nn (m_si h7 b6 x5.toNatClampNeg r9) fun h12 =>
ck (m_t h12 v0 = .inl 12) <|
ob (m_r h12 v0 22) fun b14 =>
cb (f_X12_amount G v0 (0 : Int32) (239 : Int32) h12) fun r17 h15 =>
ck (ixb h15 b14 .int x5 = true) <|
nn (m_si h15 b14 x5.toNatClampNeg r17) fun h20 =>
ck (m_t h20 v0 = .inl 12) <|
ob (m_r h20 v0 23) fun b22 =>
ob (m_r h20 v0 22) fun b23 =>
ck (ixb h20 b23 .int x5 = true) <|
cb (f_X12_amount G v0 ((m_i h20 b23 x5.toNatClampNeg) + (1 : Int32)) (240 : Int32) h20) fun r28 h26 =>
ck (ixb h26 b22 .int x5 = true) <|
nn (m_si h26 b22 x5.toNatClampNeg r28) fun h31 =>
ck (m_t h31 v0 = .inl 12) <|
ob (m_r h31 v0 24) fun b33 =>
cb (f_X12_amount G v0 (0 : Int32) (60 : Int32) h31) fun r36 h34 =>
ck (ixb h34 b33 .int x5 = true) <|
nn (m_si h34 b33 x5.toNatClampNeg r36) fun h39 =>
ck (m_t h39 v0 = .inl 12) <|
ob (m_r h39 v0 25) fun b41 =>
cb (f_X12_amount G v0 (0 : Int32) (20 : Int32) h39) fun r44 h42 =>
ck (ixb h42 b41 .int x5 = true) <|
nn (m_si h42 b41 x5.toNatClampNeg r44) fun h47 =>
ck (m_t h47 v0 = .inl 12) <|
ob (m_r h47 v0 26) fun b49 =>
ck (ixb h47 b49 .int x5 = true) <|
nn (m_si h47 b49 x5.toNatClampNeg (0 : Int32)) fun h52 =>
ob (m_r h52 v0 20) fun b53 =>
ck (ixb h52 b53 .int (6 : Int32) = true) <|
ck (ixb h52 b53 .int (6 : Int32) = true) <|
nn (m_si h52 b53 (6 : Int32).toNatClampNeg ((m_i h52 b53 (6 : Int32).toNatClampNeg) + (1 : Int32))) fun h58 =>
some h58
set_option maxHeartbeats 4000000 in
set_option maxRecDepth 100000 in
theorem ct_X12_readsPerson {G : GG} {l : Launch} {v0 : Nat} {h : AH} {y : AH} (hf : f_X12_readsPerson G v0 h = some y) : Ct G l yX12_readsPerson cX12_readsPerson 2 none 4 92 0 0 [.ref v0] h (none, y) := by
  refine ct_of (by decide) (Nat.le_of_ble_eq_true rfl) ?_
  intro p e s m args below meth c C hm hr hin
  have C : Cx G cX12_readsPerson RX12 p s m args meth c := C
  refine e_lv (lv2 := [(0, .ref v0)]) [0] rfl ?_
  unfold f_X12_readsPerson at hf
  refine e_aload_n (pc := 0) C dX12_readsPerson_0 0 rfl rfl ?_
  obtain ⟨t1, hf⟩ := ck_e hf
  refine e_getr (pc := 1) 12 20 C dX12_readsPerson_1 (by decide) (by decide) g1421 rfl t1 ?_
  obtain ⟨b2, eb2, hf⟩ := ob_e hf
  refine e_rf eb2 ?_
  refine e_bipush (v := (6 : Int32)) (pc := 4) C dX12_readsPerson_4 (by decide) ?_
  obtain ⟨q3, hf⟩ := ck_e hf
  obtain ⟨n4, tn4, in4⟩ := ix_e q3
  refine e_iald (pc := 6) C dX12_readsPerson_6 tn4 in4 ?_
  obtain ⟨x5, ex5, hf⟩ := nn_e hf
  refine e_topi ex5 ?_
  refine e_istore_n (pc := 7) (lv2 := [(1, .int x5), (0, .ref v0)]) C hm dX12_readsPerson_7 rfl (by decide) rfl ?_
  refine e_aload_n (pc := 8) C dX12_readsPerson_8 1 rfl rfl ?_
  refine e_getr (pc := 9) 12 21 C dX12_readsPerson_9 (by decide) (by decide) g1422 rfl t1 ?_
  obtain ⟨b6, eb6, hf⟩ := ob_e hf
  refine e_rf eb6 ?_
  refine e_iload_n (pc := 12) C dX12_readsPerson_12 0 rfl rfl ?_
  refine e_aload_n (pc := 13) C dX12_readsPerson_13 1 rfl rfl ?_
  refine e_iconst (v := (0 : Int32)) (pc := 14) C dX12_readsPerson_14 (by decide) ?_
  refine e_bipush (v := (7 : Int32)) (pc := 15) C dX12_readsPerson_15 (by decide) ?_
  obtain ⟨r9, h7, y8, hf⟩ := cb_e hf
  refine e_callVi (pc := 17) (st := [.int x5, .ref b6]) 12 C (ct_X12_amount y8) dX12_readsPerson_17 (by decide) t1 g1722 g1724 g65 g157 g1725 hd_X12_amount rfl ⟨Nat.le_of_ble_eq_true rfl, Nat.le_of_ble_eq_true rfl⟩ ⟨Nat.le_of_ble_eq_true rfl, Nat.le_of_ble_eq_true rfl⟩ rfl (Nat.le_of_ble_eq_true rfl) ?_
  obtain ⟨q10, hf⟩ := ck_e hf
  obtain ⟨n11, tn11, in11⟩ := ix_e q10
  refine e_iast (pc := 20) C dX12_readsPerson_20 tn11 in11 ?_
  obtain ⟨h12, eh12, hf⟩ := nn_e hf
  refine e_hp eh12 ?_
  have uh12 : m_t h12 = m_t h7 := by rw [eh12]; exact rfl
  refine e_aload_n (pc := 21) C dX12_readsPerson_21 1 rfl rfl ?_
  obtain ⟨t13, hf⟩ := ck_e hf
  refine e_getr (pc := 22) 12 22 C dX12_readsPerson_22 (by decide) (by decide) g1423 rfl t13 ?_
  obtain ⟨b14, eb14, hf⟩ := ob_e hf
  refine e_rf eb14 ?_
  refine e_iload_n (pc := 25) C dX12_readsPerson_25 0 rfl rfl ?_
  refine e_aload_n (pc := 26) C dX12_readsPerson_26 1 rfl rfl ?_
  refine e_iconst (v := (0 : Int32)) (pc := 27) C dX12_readsPerson_27 (by decide) ?_
  refine e_sipush (v := (239 : Int32)) (pc := 28) C dX12_readsPerson_28 (by decide) ?_
  obtain ⟨r17, h15, y16, hf⟩ := cb_e hf
  refine e_callVi (pc := 31) (st := [.int x5, .ref b14]) 12 C (ct_X12_amount y16) dX12_readsPerson_31 (by decide) t13 g1722 g1724 g65 g157 g1725 hd_X12_amount rfl ⟨Nat.le_of_ble_eq_true rfl, Nat.le_of_ble_eq_true rfl⟩ ⟨Nat.le_of_ble_eq_true rfl, Nat.le_of_ble_eq_true rfl⟩ rfl (Nat.le_of_ble_eq_true rfl) ?_
  obtain ⟨q18, hf⟩ := ck_e hf
  obtain ⟨n19, tn19, in19⟩ := ix_e q18
  refine e_iast (pc := 34) C dX12_readsPerson_34 tn19 in19 ?_
  obtain ⟨h20, eh20, hf⟩ := nn_e hf
  refine e_hp eh20 ?_
  have uh20 : m_t h20 = m_t h15 := by rw [eh20]; exact rfl
  refine e_aload_n (pc := 35) C dX12_readsPerson_35 1 rfl rfl ?_
  obtain ⟨t21, hf⟩ := ck_e hf
  refine e_getr (pc := 36) 12 23 C dX12_readsPerson_36 (by decide) (by decide) g1424 rfl t21 ?_
  obtain ⟨b22, eb22, hf⟩ := ob_e hf
  refine e_rf eb22 ?_
  refine e_iload_n (pc := 39) C dX12_readsPerson_39 0 rfl rfl ?_
  refine e_aload_n (pc := 40) C dX12_readsPerson_40 1 rfl rfl ?_
  refine e_aload_n (pc := 41) C dX12_readsPerson_41 1 rfl rfl ?_
  refine e_getr (pc := 42) 12 22 C dX12_readsPerson_42 (by decide) (by decide) g1423 rfl t21 ?_
  obtain ⟨b23, eb23, hf⟩ := ob_e hf
  refine e_rf eb23 ?_
  refine e_iload_n (pc := 45) C dX12_readsPerson_45 0 rfl rfl ?_
  obtain ⟨q24, hf⟩ := ck_e hf
  obtain ⟨n25, tn25, in25⟩ := ix_e q24
  refine e_iald (pc := 46) C dX12_readsPerson_46 tn25 in25 ?_
  refine e_iconst (v := (1 : Int32)) (pc := 47) C dX12_readsPerson_47 (by decide) ?_
  refine e_iadd (pc := 48) C dX12_readsPerson_48 ?_
  refine e_sipush (v := (240 : Int32)) (pc := 49) C dX12_readsPerson_49 (by decide) ?_
  obtain ⟨r28, h26, y27, hf⟩ := cb_e hf
  refine e_callVi (pc := 52) (st := [.int x5, .ref b22]) 12 C (ct_X12_amount y27) dX12_readsPerson_52 (by decide) t21 g1722 g1724 g65 g157 g1725 hd_X12_amount rfl ⟨Nat.le_of_ble_eq_true rfl, Nat.le_of_ble_eq_true rfl⟩ ⟨Nat.le_of_ble_eq_true rfl, Nat.le_of_ble_eq_true rfl⟩ rfl (Nat.le_of_ble_eq_true rfl) ?_
  obtain ⟨q29, hf⟩ := ck_e hf
  obtain ⟨n30, tn30, in30⟩ := ix_e q29
  refine e_iast (pc := 55) C dX12_readsPerson_55 tn30 in30 ?_
  obtain ⟨h31, eh31, hf⟩ := nn_e hf
  refine e_hp eh31 ?_
  have uh31 : m_t h31 = m_t h26 := by rw [eh31]; exact rfl
  refine e_aload_n (pc := 56) C dX12_readsPerson_56 1 rfl rfl ?_
  obtain ⟨t32, hf⟩ := ck_e hf
  refine e_getr (pc := 57) 12 24 C dX12_readsPerson_57 (by decide) (by decide) g1425 rfl t32 ?_
  obtain ⟨b33, eb33, hf⟩ := ob_e hf
  refine e_rf eb33 ?_
  refine e_iload_n (pc := 60) C dX12_readsPerson_60 0 rfl rfl ?_
  refine e_aload_n (pc := 61) C dX12_readsPerson_61 1 rfl rfl ?_
  refine e_iconst (v := (0 : Int32)) (pc := 62) C dX12_readsPerson_62 (by decide) ?_
  refine e_bipush (v := (60 : Int32)) (pc := 63) C dX12_readsPerson_63 (by decide) ?_
  obtain ⟨r36, h34, y35, hf⟩ := cb_e hf
  refine e_callVi (pc := 65) (st := [.int x5, .ref b33]) 12 C (ct_X12_amount y35) dX12_readsPerson_65 (by decide) t32 g1722 g1724 g65 g157 g1725 hd_X12_amount rfl ⟨Nat.le_of_ble_eq_true rfl, Nat.le_of_ble_eq_true rfl⟩ ⟨Nat.le_of_ble_eq_true rfl, Nat.le_of_ble_eq_true rfl⟩ rfl (Nat.le_of_ble_eq_true rfl) ?_
  obtain ⟨q37, hf⟩ := ck_e hf
  obtain ⟨n38, tn38, in38⟩ := ix_e q37
  refine e_iast (pc := 68) C dX12_readsPerson_68 tn38 in38 ?_
  obtain ⟨h39, eh39, hf⟩ := nn_e hf
  refine e_hp eh39 ?_
  have uh39 : m_t h39 = m_t h34 := by rw [eh39]; exact rfl
  refine e_aload_n (pc := 69) C dX12_readsPerson_69 1 rfl rfl ?_
  obtain ⟨t40, hf⟩ := ck_e hf
  refine e_getr (pc := 70) 12 25 C dX12_readsPerson_70 (by decide) (by decide) g1426 rfl t40 ?_
  obtain ⟨b41, eb41, hf⟩ := ob_e hf
  refine e_rf eb41 ?_
  refine e_iload_n (pc := 73) C dX12_readsPerson_73 0 rfl rfl ?_
  refine e_aload_n (pc := 74) C dX12_readsPerson_74 1 rfl rfl ?_
  refine e_iconst (v := (0 : Int32)) (pc := 75) C dX12_readsPerson_75 (by decide) ?_
  refine e_bipush (v := (20 : Int32)) (pc := 76) C dX12_readsPerson_76 (by decide) ?_
  obtain ⟨r44, h42, y43, hf⟩ := cb_e hf
  refine e_callVi (pc := 78) (st := [.int x5, .ref b41]) 12 C (ct_X12_amount y43) dX12_readsPerson_78 (by decide) t40 g1722 g1724 g65 g157 g1725 hd_X12_amount rfl ⟨Nat.le_of_ble_eq_true rfl, Nat.le_of_ble_eq_true rfl⟩ ⟨Nat.le_of_ble_eq_true rfl, Nat.le_of_ble_eq_true rfl⟩ rfl (Nat.le_of_ble_eq_true rfl) ?_
  obtain ⟨q45, hf⟩ := ck_e hf
  obtain ⟨n46, tn46, in46⟩ := ix_e q45
  refine e_iast (pc := 81) C dX12_readsPerson_81 tn46 in46 ?_
  obtain ⟨h47, eh47, hf⟩ := nn_e hf
  refine e_hp eh47 ?_
  have uh47 : m_t h47 = m_t h42 := by rw [eh47]; exact rfl
  refine e_aload_n (pc := 82) C dX12_readsPerson_82 1 rfl rfl ?_
  obtain ⟨t48, hf⟩ := ck_e hf
  refine e_getr (pc := 83) 12 26 C dX12_readsPerson_83 (by decide) (by decide) g1427 rfl t48 ?_
  obtain ⟨b49, eb49, hf⟩ := ob_e hf
  refine e_rf eb49 ?_
  refine e_iload_n (pc := 86) C dX12_readsPerson_86 0 rfl rfl ?_
  refine e_iconst (v := (0 : Int32)) (pc := 87) C dX12_readsPerson_87 (by decide) ?_
  obtain ⟨q50, hf⟩ := ck_e hf
  obtain ⟨n51, tn51, in51⟩ := ix_e q50
  refine e_iast (pc := 88) C dX12_readsPerson_88 tn51 in51 ?_
  obtain ⟨h52, eh52, hf⟩ := nn_e hf
  refine e_hp eh52 ?_
  have uh52 : m_t h52 = m_t h42 := by rw [eh52]; exact uh47
  refine e_aload_n (pc := 89) C dX12_readsPerson_89 1 rfl rfl ?_
  refine e_getr (pc := 90) 12 20 C dX12_readsPerson_90 (by decide) (by decide) g1421 rfl (e_mt (uh52.trans uh47.symm) t48) ?_
  obtain ⟨b53, eb53, hf⟩ := ob_e hf
  refine e_rf eb53 ?_
  refine e_bipush (v := (6 : Int32)) (pc := 93) C dX12_readsPerson_93 (by decide) ?_
  refine e_dup2 (pc := 95) C dX12_readsPerson_95 rfl rfl ?_
  obtain ⟨q54, hf⟩ := ck_e hf
  obtain ⟨n55, tn55, in55⟩ := ix_e q54
  refine e_iald (pc := 96) C dX12_readsPerson_96 tn55 in55 ?_
  refine e_iconst (v := (1 : Int32)) (pc := 97) C dX12_readsPerson_97 (by decide) ?_
  refine e_iadd (pc := 98) C dX12_readsPerson_98 ?_
  obtain ⟨q56, hf⟩ := ck_e hf
  obtain ⟨n57, tn57, in57⟩ := ix_e q56
  refine e_iast (pc := 99) C dX12_readsPerson_99 tn57 in57 ?_
  obtain ⟨h58, eh58, hf⟩ := nn_e hf
  refine e_hp eh58 ?_
  have uh58 : m_t h58 = m_t h42 := by rw [eh58]; exact uh52
  obtain rfl := so_e hf
  exact e_vret (pc := 100) C hr dX12_readsPerson_100 (Nat.le_of_ble_eq_true rfl) (Nat.le_of_ble_eq_true rfl)
theorem dX12_readsCold_0 : decode cX12_readsCold 0 = .ok (.aload_n 0, 1) := by decide +kernel
theorem dX12_readsCold_1 : decode cX12_readsCold 1 = .ok (.getfield 67, 3) := by decide +kernel
theorem dX12_readsCold_4 : decode cX12_readsCold 4 = .ok (.bipush 9, 2) := by decide +kernel
theorem dX12_readsCold_6 : decode cX12_readsCold 6 = .ok (.iaload, 1) := by decide +kernel
theorem dX12_readsCold_7 : decode cX12_readsCold 7 = .ok (.istore_n 1, 1) := by decide +kernel
theorem dX12_readsCold_8 : decode cX12_readsCold 8 = .ok (.aload_n 0, 1) := by decide +kernel
theorem dX12_readsCold_9 : decode cX12_readsCold 9 = .ok (.getfield 94, 3) := by decide +kernel
theorem dX12_readsCold_12 : decode cX12_readsCold 12 = .ok (.iload_n 1, 1) := by decide +kernel
theorem dX12_readsCold_13 : decode cX12_readsCold 13 = .ok (.aload_n 0, 1) := by decide +kernel
theorem dX12_readsCold_14 : decode cX12_readsCold 14 = .ok (.iconst 0, 1) := by decide +kernel
theorem dX12_readsCold_15 : decode cX12_readsCold 15 = .ok (.sipush 239, 3) := by decide +kernel
theorem dX12_readsCold_18 : decode cX12_readsCold 18 = .ok (.invokevirtual 351, 3) := by decide +kernel
theorem dX12_readsCold_21 : decode cX12_readsCold 21 = .ok (.iastore, 1) := by decide +kernel
theorem dX12_readsCold_22 : decode cX12_readsCold 22 = .ok (.aload_n 0, 1) := by decide +kernel
theorem dX12_readsCold_23 : decode cX12_readsCold 23 = .ok (.getfield 97, 3) := by decide +kernel
theorem dX12_readsCold_26 : decode cX12_readsCold 26 = .ok (.iload_n 1, 1) := by decide +kernel
theorem dX12_readsCold_27 : decode cX12_readsCold 27 = .ok (.aload_n 0, 1) := by decide +kernel
theorem dX12_readsCold_28 : decode cX12_readsCold 28 = .ok (.aload_n 0, 1) := by decide +kernel
theorem dX12_readsCold_29 : decode cX12_readsCold 29 = .ok (.getfield 94, 3) := by decide +kernel
theorem dX12_readsCold_32 : decode cX12_readsCold 32 = .ok (.iload_n 1, 1) := by decide +kernel
theorem dX12_readsCold_33 : decode cX12_readsCold 33 = .ok (.iaload, 1) := by decide +kernel
theorem dX12_readsCold_34 : decode cX12_readsCold 34 = .ok (.sipush 239, 3) := by decide +kernel
theorem dX12_readsCold_37 : decode cX12_readsCold 37 = .ok (.invokevirtual 351, 3) := by decide +kernel
theorem dX12_readsCold_40 : decode cX12_readsCold 40 = .ok (.iastore, 1) := by decide +kernel
theorem dX12_readsCold_41 : decode cX12_readsCold 41 = .ok (.aload_n 0, 1) := by decide +kernel
theorem dX12_readsCold_42 : decode cX12_readsCold 42 = .ok (.getfield 100, 3) := by decide +kernel
theorem dX12_readsCold_45 : decode cX12_readsCold 45 = .ok (.iload_n 1, 1) := by decide +kernel
theorem dX12_readsCold_46 : decode cX12_readsCold 46 = .ok (.aload_n 0, 1) := by decide +kernel
theorem dX12_readsCold_47 : decode cX12_readsCold 47 = .ok (.iconst 1, 1) := by decide +kernel
theorem dX12_readsCold_48 : decode cX12_readsCold 48 = .ok (.iconst 4, 1) := by decide +kernel
theorem dX12_readsCold_49 : decode cX12_readsCold 49 = .ok (.invokevirtual 351, 3) := by decide +kernel
theorem dX12_readsCold_52 : decode cX12_readsCold 52 = .ok (.iastore, 1) := by decide +kernel
theorem dX12_readsCold_53 : decode cX12_readsCold 53 = .ok (.aload_n 0, 1) := by decide +kernel
theorem dX12_readsCold_54 : decode cX12_readsCold 54 = .ok (.getfield 67, 3) := by decide +kernel
theorem dX12_readsCold_57 : decode cX12_readsCold 57 = .ok (.bipush 9, 2) := by decide +kernel
theorem dX12_readsCold_59 : decode cX12_readsCold 59 = .ok (.dup2, 1) := by decide +kernel
theorem dX12_readsCold_60 : decode cX12_readsCold 60 = .ok (.iaload, 1) := by decide +kernel
theorem dX12_readsCold_61 : decode cX12_readsCold 61 = .ok (.iconst 1, 1) := by decide +kernel
theorem dX12_readsCold_62 : decode cX12_readsCold 62 = .ok (.iadd, 1) := by decide +kernel
theorem dX12_readsCold_63 : decode cX12_readsCold 63 = .ok (.iastore, 1) := by decide +kernel
theorem dX12_readsCold_64 : decode cX12_readsCold 64 = .ok (.return_, 1) := by decide +kernel
def f_X12_readsCold (G : GG) (v0 : Nat) (h : AH) : Option (AH) :=
ck (m_t h v0 = .inl 12) <|
ob (m_r h v0 20) fun b2 =>
ck (ixb h b2 .int (9 : Int32) = true) <|
nn (m_i h b2 (9 : Int32).toNatClampNeg) fun x5 =>
ob (m_r h v0 29) fun b6 =>
cb (f_X12_amount G v0 (0 : Int32) (239 : Int32) h) fun r9 h7 =>
ck (ixb h7 b6 .int x5 = true) <|
nn (m_si h7 b6 x5.toNatClampNeg r9) fun h12 =>
ck (m_t h12 v0 = .inl 12) <|
ob (m_r h12 v0 30) fun b14 =>
ob (m_r h12 v0 29) fun b15 =>
ck (ixb h12 b15 .int x5 = true) <|
cb (f_X12_amount G v0 (m_i h12 b15 x5.toNatClampNeg) (239 : Int32) h12) fun r20 h18 =>
ck (ixb h18 b14 .int x5 = true) <|
nn (m_si h18 b14 x5.toNatClampNeg r20) fun h23 =>
ck (m_t h23 v0 = .inl 12) <|
ob (m_r h23 v0 31) fun b25 =>
cb (f_X12_amount G v0 (1 : Int32) (4 : Int32) h23) fun r28 h26 =>
ck (ixb h26 b25 .int x5 = true) <|
nn (m_si h26 b25 x5.toNatClampNeg r28) fun h31 =>
ck (m_t h31 v0 = .inl 12) <|
ob (m_r h31 v0 20) fun b33 =>
ck (ixb h31 b33 .int (9 : Int32) = true) <|
ck (ixb h31 b33 .int (9 : Int32) = true) <|
nn (m_si h31 b33 (9 : Int32).toNatClampNeg ((m_i h31 b33 (9 : Int32).toNatClampNeg) + (1 : Int32))) fun h38 =>
some h38
set_option maxHeartbeats 4000000 in
set_option maxRecDepth 100000 in
theorem ct_X12_readsCold {G : GG} {l : Launch} {v0 : Nat} {h : AH} {y : AH} (hf : f_X12_readsCold G v0 h = some y) : Ct G l yX12_readsCold cX12_readsCold 2 none 4 92 0 0 [.ref v0] h (none, y) := by
  refine ct_of (by decide) (Nat.le_of_ble_eq_true rfl) ?_
  intro p e s m args below meth c C hm hr hin
  have C : Cx G cX12_readsCold RX12 p s m args meth c := C
  refine e_lv (lv2 := [(0, .ref v0)]) [0] rfl ?_
  unfold f_X12_readsCold at hf
  refine e_aload_n (pc := 0) C dX12_readsCold_0 0 rfl rfl ?_
  obtain ⟨t1, hf⟩ := ck_e hf
  refine e_getr (pc := 1) 12 20 C dX12_readsCold_1 (by decide) (by decide) g1421 rfl t1 ?_
  obtain ⟨b2, eb2, hf⟩ := ob_e hf
  refine e_rf eb2 ?_
  refine e_bipush (v := (9 : Int32)) (pc := 4) C dX12_readsCold_4 (by decide) ?_
  obtain ⟨q3, hf⟩ := ck_e hf
  obtain ⟨n4, tn4, in4⟩ := ix_e q3
  refine e_iald (pc := 6) C dX12_readsCold_6 tn4 in4 ?_
  obtain ⟨x5, ex5, hf⟩ := nn_e hf
  refine e_topi ex5 ?_
  refine e_istore_n (pc := 7) (lv2 := [(1, .int x5), (0, .ref v0)]) C hm dX12_readsCold_7 rfl (by decide) rfl ?_
  refine e_aload_n (pc := 8) C dX12_readsCold_8 1 rfl rfl ?_
  refine e_getr (pc := 9) 12 29 C dX12_readsCold_9 (by decide) (by decide) g1430 rfl t1 ?_
  obtain ⟨b6, eb6, hf⟩ := ob_e hf
  refine e_rf eb6 ?_
  refine e_iload_n (pc := 12) C dX12_readsCold_12 0 rfl rfl ?_
  refine e_aload_n (pc := 13) C dX12_readsCold_13 1 rfl rfl ?_
  refine e_iconst (v := (0 : Int32)) (pc := 14) C dX12_readsCold_14 (by decide) ?_
  refine e_sipush (v := (239 : Int32)) (pc := 15) C dX12_readsCold_15 (by decide) ?_
  obtain ⟨r9, h7, y8, hf⟩ := cb_e hf
  refine e_callVi (pc := 18) (st := [.int x5, .ref b6]) 12 C (ct_X12_amount y8) dX12_readsCold_18 (by decide) t1 g1722 g1724 g65 g157 g1725 hd_X12_amount rfl ⟨Nat.le_of_ble_eq_true rfl, Nat.le_of_ble_eq_true rfl⟩ ⟨Nat.le_of_ble_eq_true rfl, Nat.le_of_ble_eq_true rfl⟩ rfl (Nat.le_of_ble_eq_true rfl) ?_
  obtain ⟨q10, hf⟩ := ck_e hf
  obtain ⟨n11, tn11, in11⟩ := ix_e q10
  refine e_iast (pc := 21) C dX12_readsCold_21 tn11 in11 ?_
  obtain ⟨h12, eh12, hf⟩ := nn_e hf
  refine e_hp eh12 ?_
  have uh12 : m_t h12 = m_t h7 := by rw [eh12]; exact rfl
  refine e_aload_n (pc := 22) C dX12_readsCold_22 1 rfl rfl ?_
  obtain ⟨t13, hf⟩ := ck_e hf
  refine e_getr (pc := 23) 12 30 C dX12_readsCold_23 (by decide) (by decide) g1431 rfl t13 ?_
  obtain ⟨b14, eb14, hf⟩ := ob_e hf
  refine e_rf eb14 ?_
  refine e_iload_n (pc := 26) C dX12_readsCold_26 0 rfl rfl ?_
  refine e_aload_n (pc := 27) C dX12_readsCold_27 1 rfl rfl ?_
  refine e_aload_n (pc := 28) C dX12_readsCold_28 1 rfl rfl ?_
  refine e_getr (pc := 29) 12 29 C dX12_readsCold_29 (by decide) (by decide) g1430 rfl t13 ?_
  obtain ⟨b15, eb15, hf⟩ := ob_e hf
  refine e_rf eb15 ?_
  refine e_iload_n (pc := 32) C dX12_readsCold_32 0 rfl rfl ?_
  obtain ⟨q16, hf⟩ := ck_e hf
  obtain ⟨n17, tn17, in17⟩ := ix_e q16
  refine e_iald (pc := 33) C dX12_readsCold_33 tn17 in17 ?_
  refine e_sipush (v := (239 : Int32)) (pc := 34) C dX12_readsCold_34 (by decide) ?_
  obtain ⟨r20, h18, y19, hf⟩ := cb_e hf
  refine e_callVi (pc := 37) (st := [.int x5, .ref b14]) 12 C (ct_X12_amount y19) dX12_readsCold_37 (by decide) t13 g1722 g1724 g65 g157 g1725 hd_X12_amount rfl ⟨Nat.le_of_ble_eq_true rfl, Nat.le_of_ble_eq_true rfl⟩ ⟨Nat.le_of_ble_eq_true rfl, Nat.le_of_ble_eq_true rfl⟩ rfl (Nat.le_of_ble_eq_true rfl) ?_
  obtain ⟨q21, hf⟩ := ck_e hf
  obtain ⟨n22, tn22, in22⟩ := ix_e q21
  refine e_iast (pc := 40) C dX12_readsCold_40 tn22 in22 ?_
  obtain ⟨h23, eh23, hf⟩ := nn_e hf
  refine e_hp eh23 ?_
  have uh23 : m_t h23 = m_t h18 := by rw [eh23]; exact rfl
  refine e_aload_n (pc := 41) C dX12_readsCold_41 1 rfl rfl ?_
  obtain ⟨t24, hf⟩ := ck_e hf
  refine e_getr (pc := 42) 12 31 C dX12_readsCold_42 (by decide) (by decide) g1432 rfl t24 ?_
  obtain ⟨b25, eb25, hf⟩ := ob_e hf
  refine e_rf eb25 ?_
  refine e_iload_n (pc := 45) C dX12_readsCold_45 0 rfl rfl ?_
  refine e_aload_n (pc := 46) C dX12_readsCold_46 1 rfl rfl ?_
  refine e_iconst (v := (1 : Int32)) (pc := 47) C dX12_readsCold_47 (by decide) ?_
  refine e_iconst (v := (4 : Int32)) (pc := 48) C dX12_readsCold_48 (by decide) ?_
  obtain ⟨r28, h26, y27, hf⟩ := cb_e hf
  refine e_callVi (pc := 49) (st := [.int x5, .ref b25]) 12 C (ct_X12_amount y27) dX12_readsCold_49 (by decide) t24 g1722 g1724 g65 g157 g1725 hd_X12_amount rfl ⟨Nat.le_of_ble_eq_true rfl, Nat.le_of_ble_eq_true rfl⟩ ⟨Nat.le_of_ble_eq_true rfl, Nat.le_of_ble_eq_true rfl⟩ rfl (Nat.le_of_ble_eq_true rfl) ?_
  obtain ⟨q29, hf⟩ := ck_e hf
  obtain ⟨n30, tn30, in30⟩ := ix_e q29
  refine e_iast (pc := 52) C dX12_readsCold_52 tn30 in30 ?_
  obtain ⟨h31, eh31, hf⟩ := nn_e hf
  refine e_hp eh31 ?_
  have uh31 : m_t h31 = m_t h26 := by rw [eh31]; exact rfl
  refine e_aload_n (pc := 53) C dX12_readsCold_53 1 rfl rfl ?_
  obtain ⟨t32, hf⟩ := ck_e hf
  refine e_getr (pc := 54) 12 20 C dX12_readsCold_54 (by decide) (by decide) g1421 rfl t32 ?_
  obtain ⟨b33, eb33, hf⟩ := ob_e hf
  refine e_rf eb33 ?_
  refine e_bipush (v := (9 : Int32)) (pc := 57) C dX12_readsCold_57 (by decide) ?_
  refine e_dup2 (pc := 59) C dX12_readsCold_59 rfl rfl ?_
  obtain ⟨q34, hf⟩ := ck_e hf
  obtain ⟨n35, tn35, in35⟩ := ix_e q34
  refine e_iald (pc := 60) C dX12_readsCold_60 tn35 in35 ?_
  refine e_iconst (v := (1 : Int32)) (pc := 61) C dX12_readsCold_61 (by decide) ?_
  refine e_iadd (pc := 62) C dX12_readsCold_62 ?_
  obtain ⟨q36, hf⟩ := ck_e hf
  obtain ⟨n37, tn37, in37⟩ := ix_e q36
  refine e_iast (pc := 63) C dX12_readsCold_63 tn37 in37 ?_
  obtain ⟨h38, eh38, hf⟩ := nn_e hf
  refine e_hp eh38 ?_
  have uh38 : m_t h38 = m_t h26 := by rw [eh38]; exact uh31
  obtain rfl := so_e hf
  exact e_vret (pc := 64) C hr dX12_readsCold_64 (Nat.le_of_ble_eq_true rfl) (Nat.le_of_ble_eq_true rfl)
theorem dX12_trainPart_0 : decode cX12_trainPart 0 = .ok (.iload_n 1, 1) := by decide +kernel
theorem dX12_trainPart_1 : decode cX12_trainPart 1 = .ok (.tableswitch 236 0 5 #[39, 87, 109, 116, 148, 181], 39) := by decide +kernel
theorem dX12_trainPart_40 : decode cX12_trainPart 40 = .ok (.aload_n 0, 1) := by decide +kernel
theorem dX12_trainPart_41 : decode cX12_trainPart 41 = .ok (.getfield 67, 3) := by decide +kernel
theorem dX12_trainPart_44 : decode cX12_trainPart 44 = .ok (.iconst 1, 1) := by decide +kernel
theorem dX12_trainPart_45 : decode cX12_trainPart 45 = .ok (.aload_n 0, 1) := by decide +kernel
theorem dX12_trainPart_46 : decode cX12_trainPart 46 = .ok (.iconst 0, 1) := by decide +kernel
theorem dX12_trainPart_47 : decode cX12_trainPart 47 = .ok (.bipush 60, 2) := by decide +kernel
theorem dX12_trainPart_49 : decode cX12_trainPart 49 = .ok (.invokevirtual 351, 3) := by decide +kernel
theorem dX12_trainPart_52 : decode cX12_trainPart 52 = .ok (.iastore, 1) := by decide +kernel
theorem dX12_trainPart_53 : decode cX12_trainPart 53 = .ok (.aload_n 0, 1) := by decide +kernel
theorem dX12_trainPart_54 : decode cX12_trainPart 54 = .ok (.getfield 67, 3) := by decide +kernel
theorem dX12_trainPart_57 : decode cX12_trainPart 57 = .ok (.iconst 2, 1) := by decide +kernel
theorem dX12_trainPart_58 : decode cX12_trainPart 58 = .ok (.aload_n 0, 1) := by decide +kernel
theorem dX12_trainPart_59 : decode cX12_trainPart 59 = .ok (.iconst 0, 1) := by decide +kernel
theorem dX12_trainPart_60 : decode cX12_trainPart 60 = .ok (.iconst 3, 1) := by decide +kernel
theorem dX12_trainPart_61 : decode cX12_trainPart 61 = .ok (.invokevirtual 351, 3) := by decide +kernel
theorem dX12_trainPart_64 : decode cX12_trainPart 64 = .ok (.iastore, 1) := by decide +kernel
theorem dX12_trainPart_65 : decode cX12_trainPart 65 = .ok (.aload_n 0, 1) := by decide +kernel
theorem dX12_trainPart_66 : decode cX12_trainPart 66 = .ok (.getfield 67, 3) := by decide +kernel
theorem dX12_trainPart_69 : decode cX12_trainPart 69 = .ok (.iconst 3, 1) := by decide +kernel
theorem dX12_trainPart_70 : decode cX12_trainPart 70 = .ok (.aload_n 0, 1) := by decide +kernel
theorem dX12_trainPart_71 : decode cX12_trainPart 71 = .ok (.iconst 0, 1) := by decide +kernel
theorem dX12_trainPart_72 : decode cX12_trainPart 72 = .ok (.bipush 6, 2) := by decide +kernel
theorem dX12_trainPart_74 : decode cX12_trainPart 74 = .ok (.invokevirtual 351, 3) := by decide +kernel
theorem dX12_trainPart_77 : decode cX12_trainPart 77 = .ok (.iastore, 1) := by decide +kernel
theorem dX12_trainPart_78 : decode cX12_trainPart 78 = .ok (.aload_n 0, 1) := by decide +kernel
theorem dX12_trainPart_79 : decode cX12_trainPart 79 = .ok (.getfield 67, 3) := by decide +kernel
theorem dX12_trainPart_82 : decode cX12_trainPart 82 = .ok (.iconst 0, 1) := by decide +kernel
theorem dX12_trainPart_83 : decode cX12_trainPart 83 = .ok (.iconst 1, 1) := by decide +kernel
theorem dX12_trainPart_84 : decode cX12_trainPart 84 = .ok (.iastore, 1) := by decide +kernel
theorem dX12_trainPart_85 : decode cX12_trainPart 85 = .ok (.goto 156, 3) := by decide +kernel
theorem dX12_trainPart_88 : decode cX12_trainPart 88 = .ok (.aload_n 0, 1) := by decide +kernel
theorem dX12_trainPart_89 : decode cX12_trainPart 89 = .ok (.getfield 67, 3) := by decide +kernel
theorem dX12_trainPart_92 : decode cX12_trainPart 92 = .ok (.iconst 4, 1) := by decide +kernel
theorem dX12_trainPart_93 : decode cX12_trainPart 93 = .ok (.aload_n 0, 1) := by decide +kernel
theorem dX12_trainPart_94 : decode cX12_trainPart 94 = .ok (.iconst 0, 1) := by decide +kernel
theorem dX12_trainPart_95 : decode cX12_trainPart 95 = .ok (.iconst 5, 1) := by decide +kernel
theorem dX12_trainPart_96 : decode cX12_trainPart 96 = .ok (.invokevirtual 351, 3) := by decide +kernel
theorem dX12_trainPart_99 : decode cX12_trainPart 99 = .ok (.iastore, 1) := by decide +kernel
theorem dX12_trainPart_100 : decode cX12_trainPart 100 = .ok (.aload_n 0, 1) := by decide +kernel
theorem dX12_trainPart_101 : decode cX12_trainPart 101 = .ok (.getfield 67, 3) := by decide +kernel
theorem dX12_trainPart_104 : decode cX12_trainPart 104 = .ok (.iconst 5, 1) := by decide +kernel
theorem dX12_trainPart_105 : decode cX12_trainPart 105 = .ok (.iconst 1, 1) := by decide +kernel
theorem dX12_trainPart_106 : decode cX12_trainPart 106 = .ok (.iastore, 1) := by decide +kernel
theorem dX12_trainPart_107 : decode cX12_trainPart 107 = .ok (.goto 134, 3) := by decide +kernel
theorem dX12_trainPart_110 : decode cX12_trainPart 110 = .ok (.aload_n 0, 1) := by decide +kernel
theorem dX12_trainPart_111 : decode cX12_trainPart 111 = .ok (.invokevirtual 355, 3) := by decide +kernel
theorem dX12_trainPart_114 : decode cX12_trainPart 114 = .ok (.goto 127, 3) := by decide +kernel
theorem dX12_trainPart_117 : decode cX12_trainPart 117 = .ok (.aload_n 0, 1) := by decide +kernel
theorem dX12_trainPart_118 : decode cX12_trainPart 118 = .ok (.invokevirtual 358, 3) := by decide +kernel
theorem dX12_trainPart_121 : decode cX12_trainPart 121 = .ok (.istore_n 2, 1) := by decide +kernel
theorem dX12_trainPart_122 : decode cX12_trainPart 122 = .ok (.aload_n 0, 1) := by decide +kernel
theorem dX12_trainPart_123 : decode cX12_trainPart 123 = .ok (.getfield 67, 3) := by decide +kernel
theorem dX12_trainPart_126 : decode cX12_trainPart 126 = .ok (.bipush 7, 2) := by decide +kernel
theorem dX12_trainPart_128 : decode cX12_trainPart 128 = .ok (.dup2, 1) := by decide +kernel
theorem dX12_trainPart_129 : decode cX12_trainPart 129 = .ok (.iaload, 1) := by decide +kernel
theorem dX12_trainPart_130 : decode cX12_trainPart 130 = .ok (.aload_n 0, 1) := by decide +kernel
theorem dX12_trainPart_131 : decode cX12_trainPart 131 = .ok (.getfield 243, 3) := by decide +kernel
theorem dX12_trainPart_134 : decode cX12_trainPart 134 = .ok (.ifCond .ne 9, 3) := by decide +kernel
theorem dX12_trainPart_137 : decode cX12_trainPart 137 = .ok (.iconst 1, 1) := by decide +kernel
theorem dX12_trainPart_138 : decode cX12_trainPart 138 = .ok (.iload_n 2, 1) := by decide +kernel
theorem dX12_trainPart_139 : decode cX12_trainPart 139 = .ok (.ishl, 1) := by decide +kernel
theorem dX12_trainPart_140 : decode cX12_trainPart 140 = .ok (.goto 4, 3) := by decide +kernel
theorem dX12_trainPart_143 : decode cX12_trainPart 143 = .ok (.iconst 0, 1) := by decide +kernel
theorem dX12_trainPart_144 : decode cX12_trainPart 144 = .ok (.ior, 1) := by decide +kernel
theorem dX12_trainPart_145 : decode cX12_trainPart 145 = .ok (.iastore, 1) := by decide +kernel
theorem dX12_trainPart_146 : decode cX12_trainPart 146 = .ok (.goto 95, 3) := by decide +kernel
theorem dX12_trainPart_149 : decode cX12_trainPart 149 = .ok (.aload_n 0, 1) := by decide +kernel
theorem dX12_trainPart_150 : decode cX12_trainPart 150 = .ok (.invokevirtual 358, 3) := by decide +kernel
theorem dX12_trainPart_153 : decode cX12_trainPart 153 = .ok (.istore_n 2, 1) := by decide +kernel
theorem dX12_trainPart_154 : decode cX12_trainPart 154 = .ok (.aload_n 0, 1) := by decide +kernel
theorem dX12_trainPart_155 : decode cX12_trainPart 155 = .ok (.iconst 0, 1) := by decide +kernel
theorem dX12_trainPart_156 : decode cX12_trainPart 156 = .ok (.bipush 18, 2) := by decide +kernel
theorem dX12_trainPart_158 : decode cX12_trainPart 158 = .ok (.invokevirtual 351, 3) := by decide +kernel
theorem dX12_trainPart_161 : decode cX12_trainPart 161 = .ok (.istore_n 3, 1) := by decide +kernel
theorem dX12_trainPart_162 : decode cX12_trainPart 162 = .ok (.aload_n 0, 1) := by decide +kernel
theorem dX12_trainPart_163 : decode cX12_trainPart 163 = .ok (.getfield 243, 3) := by decide +kernel
theorem dX12_trainPart_166 : decode cX12_trainPart 166 = .ok (.ifCond .ne 75, 3) := by decide +kernel
theorem dX12_trainPart_169 : decode cX12_trainPart 169 = .ok (.aload_n 0, 1) := by decide +kernel
theorem dX12_trainPart_170 : decode cX12_trainPart 170 = .ok (.getfield 85, 3) := by decide +kernel
theorem dX12_trainPart_173 : decode cX12_trainPart 173 = .ok (.iload_n 2, 1) := by decide +kernel
theorem dX12_trainPart_174 : decode cX12_trainPart 174 = .ok (.iload_n 3, 1) := by decide +kernel
theorem dX12_trainPart_175 : decode cX12_trainPart 175 = .ok (.bipush 9, 2) := by decide +kernel
theorem dX12_trainPart_177 : decode cX12_trainPart 177 = .ok (.isub, 1) := by decide +kernel
theorem dX12_trainPart_178 : decode cX12_trainPart 178 = .ok (.iastore, 1) := by decide +kernel
theorem dX12_trainPart_179 : decode cX12_trainPart 179 = .ok (.goto 62, 3) := by decide +kernel
theorem dX12_trainPart_182 : decode cX12_trainPart 182 = .ok (.aload_n 0, 1) := by decide +kernel
theorem dX12_trainPart_183 : decode cX12_trainPart 183 = .ok (.getfield 67, 3) := by decide +kernel
theorem dX12_trainPart_186 : decode cX12_trainPart 186 = .ok (.bipush 8, 2) := by decide +kernel
theorem dX12_trainPart_188 : decode cX12_trainPart 188 = .ok (.iaload, 1) := by decide +kernel
theorem dX12_trainPart_189 : decode cX12_trainPart 189 = .ok (.istore_n 2, 1) := by decide +kernel
theorem dX12_trainPart_190 : decode cX12_trainPart 190 = .ok (.aload_n 0, 1) := by decide +kernel
theorem dX12_trainPart_191 : decode cX12_trainPart 191 = .ok (.getfield 88, 3) := by decide +kernel
theorem dX12_trainPart_194 : decode cX12_trainPart 194 = .ok (.iload_n 2, 1) := by decide +kernel
theorem dX12_trainPart_195 : decode cX12_trainPart 195 = .ok (.aload_n 0, 1) := by decide +kernel
theorem dX12_trainPart_196 : decode cX12_trainPart 196 = .ok (.iconst 0, 1) := by decide +kernel
theorem dX12_trainPart_197 : decode cX12_trainPart 197 = .ok (.sipush 239, 3) := by decide +kernel
theorem dX12_trainPart_200 : decode cX12_trainPart 200 = .ok (.invokevirtual 351, 3) := by decide +kernel
theorem dX12_trainPart_203 : decode cX12_trainPart 203 = .ok (.iastore, 1) := by decide +kernel
theorem dX12_trainPart_204 : decode cX12_trainPart 204 = .ok (.aload_n 0, 1) := by decide +kernel
theorem dX12_trainPart_205 : decode cX12_trainPart 205 = .ok (.getfield 91, 3) := by decide +kernel
theorem dX12_trainPart_208 : decode cX12_trainPart 208 = .ok (.iload_n 2, 1) := by decide +kernel
theorem dX12_trainPart_209 : decode cX12_trainPart 209 = .ok (.aload_n 0, 1) := by decide +kernel
theorem dX12_trainPart_210 : decode cX12_trainPart 210 = .ok (.aload_n 0, 1) := by decide +kernel
theorem dX12_trainPart_211 : decode cX12_trainPart 211 = .ok (.getfield 88, 3) := by decide +kernel
theorem dX12_trainPart_214 : decode cX12_trainPart 214 = .ok (.iload_n 2, 1) := by decide +kernel
theorem dX12_trainPart_215 : decode cX12_trainPart 215 = .ok (.iaload, 1) := by decide +kernel
theorem dX12_trainPart_216 : decode cX12_trainPart 216 = .ok (.sipush 239, 3) := by decide +kernel
theorem dX12_trainPart_219 : decode cX12_trainPart 219 = .ok (.invokevirtual 351, 3) := by decide +kernel
theorem dX12_trainPart_222 : decode cX12_trainPart 222 = .ok (.iastore, 1) := by decide +kernel
theorem dX12_trainPart_223 : decode cX12_trainPart 223 = .ok (.aload_n 0, 1) := by decide +kernel
theorem dX12_trainPart_224 : decode cX12_trainPart 224 = .ok (.getfield 67, 3) := by decide +kernel
theorem dX12_trainPart_227 : decode cX12_trainPart 227 = .ok (.bipush 8, 2) := by decide +kernel
theorem dX12_trainPart_229 : decode cX12_trainPart 229 = .ok (.dup2, 1) := by decide +kernel
theorem dX12_trainPart_230 : decode cX12_trainPart 230 = .ok (.iaload, 1) := by decide +kernel
theorem dX12_trainPart_231 : decode cX12_trainPart 231 = .ok (.iconst 1, 1) := by decide +kernel
theorem dX12_trainPart_232 : decode cX12_trainPart 232 = .ok (.iadd, 1) := by decide +kernel
theorem dX12_trainPart_233 : decode cX12_trainPart 233 = .ok (.iastore, 1) := by decide +kernel
theorem dX12_trainPart_234 : decode cX12_trainPart 234 = .ok (.goto 7, 3) := by decide +kernel
theorem dX12_trainPart_237 : decode cX12_trainPart 237 = .ok (.aload_n 0, 1) := by decide +kernel
theorem dX12_trainPart_238 : decode cX12_trainPart 238 = .ok (.invokevirtual 361, 3) := by decide +kernel
theorem dX12_trainPart_241 : decode cX12_trainPart 241 = .ok (.return_, 1) := by decide +kernel
def f_X12_trainPart (G : GG) (v0 : Nat) (v1 : Int32) (h : AH) : Option (AH) :=
if v1 = (0 : Int32) then (ck (m_t h v0 = .inl 12) <|
ob (m_r h v0 20) fun b3 =>
cb (f_X12_amount G v0 (0 : Int32) (60 : Int32) h) fun r6 h4 =>
ck (ixb h4 b3 .int (1 : Int32) = true) <|
nn (m_si h4 b3 (1 : Int32).toNatClampNeg r6) fun h9 =>
ck (m_t h9 v0 = .inl 12) <|
ob (m_r h9 v0 20) fun b11 =>
cb (f_X12_amount G v0 (0 : Int32) (3 : Int32) h9) fun r14 h12 =>
ck (ixb h12 b11 .int (2 : Int32) = true) <|
nn (m_si h12 b11 (2 : Int32).toNatClampNeg r14) fun h17 =>
ck (m_t h17 v0 = .inl 12) <|
ob (m_r h17 v0 20) fun b19 =>
cb (f_X12_amount G v0 (0 : Int32) (6 : Int32) h17) fun r22 h20 =>
ck (ixb h20 b19 .int (3 : Int32) = true) <|
nn (m_si h20 b19 (3 : Int32).toNatClampNeg r22) fun h25 =>
ck (m_t h25 v0 = .inl 12) <|
ob (m_r h25 v0 20) fun b27 =>
ck (ixb h25 b27 .int (0 : Int32) = true) <|
nn (m_si h25 b27 (0 : Int32).toNatClampNeg (1 : Int32)) fun h30 =>
some h30) else
if v1 = (1 : Int32) then (ck (m_t h v0 = .inl 12) <|
ob (m_r h v0 20) fun b33 =>
cb (f_X12_amount G v0 (0 : Int32) (5 : Int32) h) fun r36 h34 =>
ck (ixb h34 b33 .int (4 : Int32) = true) <|
nn (m_si h34 b33 (4 : Int32).toNatClampNeg r36) fun h39 =>
ck (m_t h39 v0 = .inl 12) <|
ob (m_r h39 v0 20) fun b41 =>
ck (ixb h39 b41 .int (5 : Int32) = true) <|
nn (m_si h39 b41 (5 : Int32).toNatClampNeg (1 : Int32)) fun h44 =>
some h44) else
if v1 = (2 : Int32) then (ck (m_t h v0 = .inl 12) <|
ob (f_X12_readsPerson G v0 h) fun h47 =>
some h47) else
if v1 = (3 : Int32) then (ck (m_t h v0 = .inl 12) <|
cb (f_X12_onePerson G v0 h) fun r53 h51 =>
ck (m_t h51 v0 = .inl 12) <|
ob (m_r h51 v0 20) fun b55 =>
ck (ixb h51 b55 .int (7 : Int32) = true) <|
nn (fun (s0_144 : Int32) => (ck (ixb h51 b55 .int (7 : Int32) = true) <|
nn (m_si h51 b55 (7 : Int32).toNatClampNeg ((m_i h51 b55 (7 : Int32).toNatClampNeg) ||| s0_144)) fun h60 =>
some h60)) fun j_144 =>
if (m_i h51 v0 34) = 0 then (j_144 ((1 : Int32) <<< (r53 &&& 31))) else
j_144 (0 : Int32)) else
if v1 = (4 : Int32) then (ck (m_t h v0 = .inl 12) <|
cb (f_X12_onePerson G v0 h) fun r66 h64 =>
ck (m_t h64 v0 = .inl 12) <|
cb (f_X12_amount G v0 (0 : Int32) (18 : Int32) h64) fun r70 h68 =>
ck (m_t h68 v0 = .inl 12) <|
if (m_i h68 v0 34) = 0 then (ob (m_r h68 v0 26) fun b73 =>
ck (ixb h68 b73 .int r66 = true) <|
nn (m_si h68 b73 r66.toNatClampNeg (r70 - (9 : Int32))) fun h76 =>
some h76) else
some h68) else
if v1 = (5 : Int32) then (ck (m_t h v0 = .inl 12) <|
ob (m_r h v0 20) fun b79 =>
ck (ixb h b79 .int (8 : Int32) = true) <|
nn (m_i h b79 (8 : Int32).toNatClampNeg) fun x82 =>
ob (m_r h v0 27) fun b83 =>
cb (f_X12_amount G v0 (0 : Int32) (239 : Int32) h) fun r86 h84 =>
ck (ixb h84 b83 .int x82 = true) <|
nn (m_si h84 b83 x82.toNatClampNeg r86) fun h89 =>
ck (m_t h89 v0 = .inl 12) <|
ob (m_r h89 v0 28) fun b91 =>
ob (m_r h89 v0 27) fun b92 =>
ck (ixb h89 b92 .int x82 = true) <|
cb (f_X12_amount G v0 (m_i h89 b92 x82.toNatClampNeg) (239 : Int32) h89) fun r97 h95 =>
ck (ixb h95 b91 .int x82 = true) <|
nn (m_si h95 b91 x82.toNatClampNeg r97) fun h100 =>
ck (m_t h100 v0 = .inl 12) <|
ob (m_r h100 v0 20) fun b102 =>
ck (ixb h100 b102 .int (8 : Int32) = true) <|
ck (ixb h100 b102 .int (8 : Int32) = true) <|
nn (m_si h100 b102 (8 : Int32).toNatClampNeg ((m_i h100 b102 (8 : Int32).toNatClampNeg) + (1 : Int32))) fun h107 =>
some h107) else
ck (m_t h v0 = .inl 12) <|
ob (f_X12_readsCold G v0 h) fun h109 =>
some h109
set_option maxHeartbeats 4000000 in
set_option maxRecDepth 100000 in
theorem ct_X12_trainPart {G : GG} {l : Launch} {v0 : Nat} {v1 : Int32} {h : AH} {y : AH} (hf : f_X12_trainPart G v0 v1 h = some y) : Ct G l yX12_trainPart cX12_trainPart 4 none 5 113 0 0 [.ref v0, .int v1] h (none, y) := by
  refine ct_of (by decide) (Nat.le_of_ble_eq_true rfl) ?_
  intro p e s m args below meth c C hm hr hin
  have C : Cx G cX12_trainPart RX12 p s m args meth c := C
  refine e_lv (lv2 := [(0, .ref v0), (1, .int v1)]) [0, 1] rfl ?_
  unfold f_X12_trainPart at hf
  refine e_iload_n (pc := 0) C dX12_trainPart_0 1 rfl rfl ?_
  rcases it_e hf with ⟨c1, hf⟩ | ⟨c1, hf⟩
  · refine e_tabK (pc := 1) (tgt := 40) (0 : Int32) c1 C dX12_trainPart_1 (by decide) (by decide) rfl (by decide) ?_
    refine e_aload_n (pc := 40) C dX12_trainPart_40 0 rfl rfl ?_
    obtain ⟨t2, hf⟩ := ck_e hf
    refine e_getr (pc := 41) 12 20 C dX12_trainPart_41 (by decide) (by decide) g1421 rfl t2 ?_
    obtain ⟨b3, eb3, hf⟩ := ob_e hf
    refine e_rf eb3 ?_
    refine e_iconst (v := (1 : Int32)) (pc := 44) C dX12_trainPart_44 (by decide) ?_
    refine e_aload_n (pc := 45) C dX12_trainPart_45 0 rfl rfl ?_
    refine e_iconst (v := (0 : Int32)) (pc := 46) C dX12_trainPart_46 (by decide) ?_
    refine e_bipush (v := (60 : Int32)) (pc := 47) C dX12_trainPart_47 (by decide) ?_
    obtain ⟨r6, h4, y5, hf⟩ := cb_e hf
    refine e_callVi (pc := 49) (st := [.int (1 : Int32), .ref b3]) 12 C (ct_X12_amount y5) dX12_trainPart_49 (by decide) t2 g1722 g1724 g65 g157 g1725 hd_X12_amount rfl ⟨Nat.le_of_ble_eq_true rfl, Nat.le_of_ble_eq_true rfl⟩ ⟨Nat.le_of_ble_eq_true rfl, Nat.le_of_ble_eq_true rfl⟩ rfl (Nat.le_of_ble_eq_true rfl) ?_
    obtain ⟨q7, hf⟩ := ck_e hf
    obtain ⟨n8, tn8, in8⟩ := ix_e q7
    refine e_iast (pc := 52) C dX12_trainPart_52 tn8 in8 ?_
    obtain ⟨h9, eh9, hf⟩ := nn_e hf
    refine e_hp eh9 ?_
    have uh9 : m_t h9 = m_t h4 := by rw [eh9]; exact rfl
    refine e_aload_n (pc := 53) C dX12_trainPart_53 0 rfl rfl ?_
    obtain ⟨t10, hf⟩ := ck_e hf
    refine e_getr (pc := 54) 12 20 C dX12_trainPart_54 (by decide) (by decide) g1421 rfl t10 ?_
    obtain ⟨b11, eb11, hf⟩ := ob_e hf
    refine e_rf eb11 ?_
    refine e_iconst (v := (2 : Int32)) (pc := 57) C dX12_trainPart_57 (by decide) ?_
    refine e_aload_n (pc := 58) C dX12_trainPart_58 0 rfl rfl ?_
    refine e_iconst (v := (0 : Int32)) (pc := 59) C dX12_trainPart_59 (by decide) ?_
    refine e_iconst (v := (3 : Int32)) (pc := 60) C dX12_trainPart_60 (by decide) ?_
    obtain ⟨r14, h12, y13, hf⟩ := cb_e hf
    refine e_callVi (pc := 61) (st := [.int (2 : Int32), .ref b11]) 12 C (ct_X12_amount y13) dX12_trainPart_61 (by decide) t10 g1722 g1724 g65 g157 g1725 hd_X12_amount rfl ⟨Nat.le_of_ble_eq_true rfl, Nat.le_of_ble_eq_true rfl⟩ ⟨Nat.le_of_ble_eq_true rfl, Nat.le_of_ble_eq_true rfl⟩ rfl (Nat.le_of_ble_eq_true rfl) ?_
    obtain ⟨q15, hf⟩ := ck_e hf
    obtain ⟨n16, tn16, in16⟩ := ix_e q15
    refine e_iast (pc := 64) C dX12_trainPart_64 tn16 in16 ?_
    obtain ⟨h17, eh17, hf⟩ := nn_e hf
    refine e_hp eh17 ?_
    have uh17 : m_t h17 = m_t h12 := by rw [eh17]; exact rfl
    refine e_aload_n (pc := 65) C dX12_trainPart_65 0 rfl rfl ?_
    obtain ⟨t18, hf⟩ := ck_e hf
    refine e_getr (pc := 66) 12 20 C dX12_trainPart_66 (by decide) (by decide) g1421 rfl t18 ?_
    obtain ⟨b19, eb19, hf⟩ := ob_e hf
    refine e_rf eb19 ?_
    refine e_iconst (v := (3 : Int32)) (pc := 69) C dX12_trainPart_69 (by decide) ?_
    refine e_aload_n (pc := 70) C dX12_trainPart_70 0 rfl rfl ?_
    refine e_iconst (v := (0 : Int32)) (pc := 71) C dX12_trainPart_71 (by decide) ?_
    refine e_bipush (v := (6 : Int32)) (pc := 72) C dX12_trainPart_72 (by decide) ?_
    obtain ⟨r22, h20, y21, hf⟩ := cb_e hf
    refine e_callVi (pc := 74) (st := [.int (3 : Int32), .ref b19]) 12 C (ct_X12_amount y21) dX12_trainPart_74 (by decide) t18 g1722 g1724 g65 g157 g1725 hd_X12_amount rfl ⟨Nat.le_of_ble_eq_true rfl, Nat.le_of_ble_eq_true rfl⟩ ⟨Nat.le_of_ble_eq_true rfl, Nat.le_of_ble_eq_true rfl⟩ rfl (Nat.le_of_ble_eq_true rfl) ?_
    obtain ⟨q23, hf⟩ := ck_e hf
    obtain ⟨n24, tn24, in24⟩ := ix_e q23
    refine e_iast (pc := 77) C dX12_trainPart_77 tn24 in24 ?_
    obtain ⟨h25, eh25, hf⟩ := nn_e hf
    refine e_hp eh25 ?_
    have uh25 : m_t h25 = m_t h20 := by rw [eh25]; exact rfl
    refine e_aload_n (pc := 78) C dX12_trainPart_78 0 rfl rfl ?_
    obtain ⟨t26, hf⟩ := ck_e hf
    refine e_getr (pc := 79) 12 20 C dX12_trainPart_79 (by decide) (by decide) g1421 rfl t26 ?_
    obtain ⟨b27, eb27, hf⟩ := ob_e hf
    refine e_rf eb27 ?_
    refine e_iconst (v := (0 : Int32)) (pc := 82) C dX12_trainPart_82 (by decide) ?_
    refine e_iconst (v := (1 : Int32)) (pc := 83) C dX12_trainPart_83 (by decide) ?_
    obtain ⟨q28, hf⟩ := ck_e hf
    obtain ⟨n29, tn29, in29⟩ := ix_e q28
    refine e_iast (pc := 84) C dX12_trainPart_84 tn29 in29 ?_
    obtain ⟨h30, eh30, hf⟩ := nn_e hf
    refine e_hp eh30 ?_
    have uh30 : m_t h30 = m_t h20 := by rw [eh30]; exact uh25
    refine e_goto (pc := 85) (tgt := 241) C dX12_trainPart_85 (by decide) ?_
    obtain rfl := so_e hf
    exact e_vret (pc := 241) C hr dX12_trainPart_241 (Nat.le_of_ble_eq_true rfl) (Nat.le_of_ble_eq_true rfl)
  rcases it_e hf with ⟨c31, hf⟩ | ⟨c31, hf⟩
  · refine e_tabK (pc := 1) (tgt := 88) (1 : Int32) c31 C dX12_trainPart_1 (by decide) (by decide) rfl (by decide) ?_
    refine e_aload_n (pc := 88) C dX12_trainPart_88 0 rfl rfl ?_
    obtain ⟨t32, hf⟩ := ck_e hf
    refine e_getr (pc := 89) 12 20 C dX12_trainPart_89 (by decide) (by decide) g1421 rfl t32 ?_
    obtain ⟨b33, eb33, hf⟩ := ob_e hf
    refine e_rf eb33 ?_
    refine e_iconst (v := (4 : Int32)) (pc := 92) C dX12_trainPart_92 (by decide) ?_
    refine e_aload_n (pc := 93) C dX12_trainPart_93 0 rfl rfl ?_
    refine e_iconst (v := (0 : Int32)) (pc := 94) C dX12_trainPart_94 (by decide) ?_
    refine e_iconst (v := (5 : Int32)) (pc := 95) C dX12_trainPart_95 (by decide) ?_
    obtain ⟨r36, h34, y35, hf⟩ := cb_e hf
    refine e_callVi (pc := 96) (st := [.int (4 : Int32), .ref b33]) 12 C (ct_X12_amount y35) dX12_trainPart_96 (by decide) t32 g1722 g1724 g65 g157 g1725 hd_X12_amount rfl ⟨Nat.le_of_ble_eq_true rfl, Nat.le_of_ble_eq_true rfl⟩ ⟨Nat.le_of_ble_eq_true rfl, Nat.le_of_ble_eq_true rfl⟩ rfl (Nat.le_of_ble_eq_true rfl) ?_
    obtain ⟨q37, hf⟩ := ck_e hf
    obtain ⟨n38, tn38, in38⟩ := ix_e q37
    refine e_iast (pc := 99) C dX12_trainPart_99 tn38 in38 ?_
    obtain ⟨h39, eh39, hf⟩ := nn_e hf
    refine e_hp eh39 ?_
    have uh39 : m_t h39 = m_t h34 := by rw [eh39]; exact rfl
    refine e_aload_n (pc := 100) C dX12_trainPart_100 0 rfl rfl ?_
    obtain ⟨t40, hf⟩ := ck_e hf
    refine e_getr (pc := 101) 12 20 C dX12_trainPart_101 (by decide) (by decide) g1421 rfl t40 ?_
    obtain ⟨b41, eb41, hf⟩ := ob_e hf
    refine e_rf eb41 ?_
    refine e_iconst (v := (5 : Int32)) (pc := 104) C dX12_trainPart_104 (by decide) ?_
    refine e_iconst (v := (1 : Int32)) (pc := 105) C dX12_trainPart_105 (by decide) ?_
    obtain ⟨q42, hf⟩ := ck_e hf
    obtain ⟨n43, tn43, in43⟩ := ix_e q42
    refine e_iast (pc := 106) C dX12_trainPart_106 tn43 in43 ?_
    obtain ⟨h44, eh44, hf⟩ := nn_e hf
    refine e_hp eh44 ?_
    have uh44 : m_t h44 = m_t h34 := by rw [eh44]; exact uh39
    refine e_goto (pc := 107) (tgt := 241) C dX12_trainPart_107 (by decide) ?_
    obtain rfl := so_e hf
    exact e_vret (pc := 241) C hr dX12_trainPart_241 (Nat.le_of_ble_eq_true rfl) (Nat.le_of_ble_eq_true rfl)
  rcases it_e hf with ⟨c45, hf⟩ | ⟨c45, hf⟩
  · refine e_tabK (pc := 1) (tgt := 110) (2 : Int32) c45 C dX12_trainPart_1 (by decide) (by decide) rfl (by decide) ?_
    refine e_aload_n (pc := 110) C dX12_trainPart_110 0 rfl rfl ?_
    obtain ⟨t46, hf⟩ := ck_e hf
    obtain ⟨h47, y48, hf⟩ := ob_e hf
    refine e_callVv (pc := 111) (st := []) 12 C (ct_X12_readsPerson y48) dX12_trainPart_111 (by decide) t46 g1740 g1742 g68 g157 g1743 hd_X12_readsPerson rfl ⟨Nat.le_of_ble_eq_true rfl, Nat.le_of_ble_eq_true rfl⟩ ⟨Nat.le_of_ble_eq_true rfl, Nat.le_of_ble_eq_true rfl⟩ rfl (Nat.le_of_ble_eq_true rfl) ?_
    refine e_goto (pc := 114) (tgt := 241) C dX12_trainPart_114 (by decide) ?_
    obtain rfl := so_e hf
    exact e_vret (pc := 241) C hr dX12_trainPart_241 (Nat.le_of_ble_eq_true rfl) (Nat.le_of_ble_eq_true rfl)
  rcases it_e hf with ⟨c49, hf⟩ | ⟨c49, hf⟩
  · refine e_tabK (pc := 1) (tgt := 117) (3 : Int32) c49 C dX12_trainPart_1 (by decide) (by decide) rfl (by decide) ?_
    refine e_aload_n (pc := 117) C dX12_trainPart_117 0 rfl rfl ?_
    obtain ⟨t50, hf⟩ := ck_e hf
    obtain ⟨r53, h51, y52, hf⟩ := cb_e hf
    refine e_callVi (pc := 118) (st := []) 12 C (ct_X12_onePerson y52) dX12_trainPart_118 (by decide) t50 g1744 g1746 g69 g157 g1747 hd_X12_onePerson rfl ⟨Nat.le_of_ble_eq_true rfl, Nat.le_of_ble_eq_true rfl⟩ ⟨Nat.le_of_ble_eq_true rfl, Nat.le_of_ble_eq_true rfl⟩ rfl (Nat.le_of_ble_eq_true rfl) ?_
    refine e_istore_n (pc := 121) (lv2 := [(2, .int r53), (0, .ref v0), (1, .int v1)]) C hm dX12_trainPart_121 rfl (by decide) rfl ?_
    refine e_aload_n (pc := 122) C dX12_trainPart_122 1 rfl rfl ?_
    obtain ⟨t54, hf⟩ := ck_e hf
    refine e_getr (pc := 123) 12 20 C dX12_trainPart_123 (by decide) (by decide) g1421 rfl t54 ?_
    obtain ⟨b55, eb55, hf⟩ := ob_e hf
    refine e_rf eb55 ?_
    refine e_bipush (v := (7 : Int32)) (pc := 126) C dX12_trainPart_126 (by decide) ?_
    refine e_dup2 (pc := 128) C dX12_trainPart_128 rfl rfl ?_
    obtain ⟨q56, hf⟩ := ck_e hf
    obtain ⟨n57, tn57, in57⟩ := ix_e q56
    refine e_iald (pc := 129) C dX12_trainPart_129 tn57 in57 ?_
    refine e_aload_n (pc := 130) C dX12_trainPart_130 1 rfl rfl ?_
    refine e_geti (pc := 131) 12 34 C dX12_trainPart_131 (by decide) (by decide) g1435 rfl t54 ?_
    obtain ⟨j_144, ej_144, hf⟩ := nn_e hf
    have W_144 : ∀ (s0_144 : Int32), j_144 s0_144 = some y → EE G p l e ({ frames := 5, cells := 0, slots := 0, locals := 113 } : Room) s m args below meth c (none, y) 0 0 144 [] [.int s0_144, .int (m_i h51 b55 (7 : Int32).toNatClampNeg), .int (7 : Int32), .ref b55] h51 0 0 := by
      intro s0_144 hf
      rw [ej_144] at hf
      refine e_ior (pc := 144) C dX12_trainPart_144 ?_
      obtain ⟨q58, hf⟩ := ck_e hf
      obtain ⟨n59, tn59, in59⟩ := ix_e q58
      refine e_iast (pc := 145) C dX12_trainPart_145 tn59 in59 ?_
      obtain ⟨h60, eh60, hf⟩ := nn_e hf
      refine e_hp eh60 ?_
      have uh60 : m_t h60 = m_t h51 := by rw [eh60]; exact rfl
      refine e_goto (pc := 146) (tgt := 241) C dX12_trainPart_146 (by decide) ?_
      obtain rfl := so_e hf
      exact e_vret (pc := 241) C hr dX12_trainPart_241 (Nat.le_of_ble_eq_true rfl) (Nat.le_of_ble_eq_true rfl)
    rcases it_e hf with ⟨c61, hf⟩ | ⟨c61, hf⟩
    · refine e_if_ne (pc := 134) (tgt := 143) C dX12_trainPart_134 (by decide) (fun q => absurd c61 q) (fun _ => ?_)
      refine e_iconst (v := (1 : Int32)) (pc := 137) C dX12_trainPart_137 (by decide) ?_
      refine e_iload_n (pc := 138) C dX12_trainPart_138 0 rfl rfl ?_
      refine e_ishl (pc := 139) C dX12_trainPart_139 ?_
      refine e_goto (pc := 140) (tgt := 144) C dX12_trainPart_140 (by decide) ?_
      refine e_lv (lv2 := []) [] rfl ?_
      exact W_144 ((1 : Int32) <<< (r53 &&& 31)) hf
    · refine e_if_ne (pc := 134) (tgt := 143) C dX12_trainPart_134 (by decide) (fun _ => ?_) (fun q => absurd q c61)
      refine e_iconst (v := (0 : Int32)) (pc := 143) C dX12_trainPart_143 (by decide) ?_
      refine e_lv (lv2 := []) [] rfl ?_
      exact W_144 (0 : Int32) hf
  rcases it_e hf with ⟨c62, hf⟩ | ⟨c62, hf⟩
  · refine e_tabK (pc := 1) (tgt := 149) (4 : Int32) c62 C dX12_trainPart_1 (by decide) (by decide) rfl (by decide) ?_
    refine e_aload_n (pc := 149) C dX12_trainPart_149 0 rfl rfl ?_
    obtain ⟨t63, hf⟩ := ck_e hf
    obtain ⟨r66, h64, y65, hf⟩ := cb_e hf
    refine e_callVi (pc := 150) (st := []) 12 C (ct_X12_onePerson y65) dX12_trainPart_150 (by decide) t63 g1744 g1746 g69 g157 g1747 hd_X12_onePerson rfl ⟨Nat.le_of_ble_eq_true rfl, Nat.le_of_ble_eq_true rfl⟩ ⟨Nat.le_of_ble_eq_true rfl, Nat.le_of_ble_eq_true rfl⟩ rfl (Nat.le_of_ble_eq_true rfl) ?_
    refine e_istore_n (pc := 153) (lv2 := [(2, .int r66), (0, .ref v0), (1, .int v1)]) C hm dX12_trainPart_153 rfl (by decide) rfl ?_
    refine e_aload_n (pc := 154) C dX12_trainPart_154 1 rfl rfl ?_
    refine e_iconst (v := (0 : Int32)) (pc := 155) C dX12_trainPart_155 (by decide) ?_
    refine e_bipush (v := (18 : Int32)) (pc := 156) C dX12_trainPart_156 (by decide) ?_
    obtain ⟨t67, hf⟩ := ck_e hf
    obtain ⟨r70, h68, y69, hf⟩ := cb_e hf
    refine e_callVi (pc := 158) (st := []) 12 C (ct_X12_amount y69) dX12_trainPart_158 (by decide) t67 g1722 g1724 g65 g157 g1725 hd_X12_amount rfl ⟨Nat.le_of_ble_eq_true rfl, Nat.le_of_ble_eq_true rfl⟩ ⟨Nat.le_of_ble_eq_true rfl, Nat.le_of_ble_eq_true rfl⟩ rfl (Nat.le_of_ble_eq_true rfl) ?_
    refine e_istore_n (pc := 161) (lv2 := [(3, .int r70), (2, .int r66), (0, .ref v0), (1, .int v1)]) C hm dX12_trainPart_161 rfl (by decide) rfl ?_
    refine e_aload_n (pc := 162) C dX12_trainPart_162 2 rfl rfl ?_
    obtain ⟨t71, hf⟩ := ck_e hf
    refine e_geti (pc := 163) 12 34 C dX12_trainPart_163 (by decide) (by decide) g1435 rfl t71 ?_
    rcases it_e hf with ⟨c72, hf⟩ | ⟨c72, hf⟩
    · refine e_if_ne (pc := 166) (tgt := 241) C dX12_trainPart_166 (by decide) (fun q => absurd c72 q) (fun _ => ?_)
      refine e_aload_n (pc := 169) C dX12_trainPart_169 2 rfl rfl ?_
      refine e_getr (pc := 170) 12 26 C dX12_trainPart_170 (by decide) (by decide) g1427 rfl t71 ?_
      obtain ⟨b73, eb73, hf⟩ := ob_e hf
      refine e_rf eb73 ?_
      refine e_iload_n (pc := 173) C dX12_trainPart_173 1 rfl rfl ?_
      refine e_iload_n (pc := 174) C dX12_trainPart_174 0 rfl rfl ?_
      refine e_bipush (v := (9 : Int32)) (pc := 175) C dX12_trainPart_175 (by decide) ?_
      refine e_isub (pc := 177) C dX12_trainPart_177 ?_
      obtain ⟨q74, hf⟩ := ck_e hf
      obtain ⟨n75, tn75, in75⟩ := ix_e q74
      refine e_iast (pc := 178) C dX12_trainPart_178 tn75 in75 ?_
      obtain ⟨h76, eh76, hf⟩ := nn_e hf
      refine e_hp eh76 ?_
      have uh76 : m_t h76 = m_t h68 := by rw [eh76]; exact rfl
      refine e_goto (pc := 179) (tgt := 241) C dX12_trainPart_179 (by decide) ?_
      obtain rfl := so_e hf
      exact e_vret (pc := 241) C hr dX12_trainPart_241 (Nat.le_of_ble_eq_true rfl) (Nat.le_of_ble_eq_true rfl)
    · refine e_if_ne (pc := 166) (tgt := 241) C dX12_trainPart_166 (by decide) (fun _ => ?_) (fun q => absurd q c72)
      obtain rfl := so_e hf
      exact e_vret (pc := 241) C hr dX12_trainPart_241 (Nat.le_of_ble_eq_true rfl) (Nat.le_of_ble_eq_true rfl)
  rcases it_e hf with ⟨c77, hf⟩ | ⟨c77, hf⟩
  · refine e_tabK (pc := 1) (tgt := 182) (5 : Int32) c77 C dX12_trainPart_1 (by decide) (by decide) rfl (by decide) ?_
    refine e_aload_n (pc := 182) C dX12_trainPart_182 0 rfl rfl ?_
    obtain ⟨t78, hf⟩ := ck_e hf
    refine e_getr (pc := 183) 12 20 C dX12_trainPart_183 (by decide) (by decide) g1421 rfl t78 ?_
    obtain ⟨b79, eb79, hf⟩ := ob_e hf
    refine e_rf eb79 ?_
    refine e_bipush (v := (8 : Int32)) (pc := 186) C dX12_trainPart_186 (by decide) ?_
    obtain ⟨q80, hf⟩ := ck_e hf
    obtain ⟨n81, tn81, in81⟩ := ix_e q80
    refine e_iald (pc := 188) C dX12_trainPart_188 tn81 in81 ?_
    obtain ⟨x82, ex82, hf⟩ := nn_e hf
    refine e_topi ex82 ?_
    refine e_istore_n (pc := 189) (lv2 := [(2, .int x82), (0, .ref v0), (1, .int v1)]) C hm dX12_trainPart_189 rfl (by decide) rfl ?_
    refine e_aload_n (pc := 190) C dX12_trainPart_190 1 rfl rfl ?_
    refine e_getr (pc := 191) 12 27 C dX12_trainPart_191 (by decide) (by decide) g1428 rfl t78 ?_
    obtain ⟨b83, eb83, hf⟩ := ob_e hf
    refine e_rf eb83 ?_
    refine e_iload_n (pc := 194) C dX12_trainPart_194 0 rfl rfl ?_
    refine e_aload_n (pc := 195) C dX12_trainPart_195 1 rfl rfl ?_
    refine e_iconst (v := (0 : Int32)) (pc := 196) C dX12_trainPart_196 (by decide) ?_
    refine e_sipush (v := (239 : Int32)) (pc := 197) C dX12_trainPart_197 (by decide) ?_
    obtain ⟨r86, h84, y85, hf⟩ := cb_e hf
    refine e_callVi (pc := 200) (st := [.int x82, .ref b83]) 12 C (ct_X12_amount y85) dX12_trainPart_200 (by decide) t78 g1722 g1724 g65 g157 g1725 hd_X12_amount rfl ⟨Nat.le_of_ble_eq_true rfl, Nat.le_of_ble_eq_true rfl⟩ ⟨Nat.le_of_ble_eq_true rfl, Nat.le_of_ble_eq_true rfl⟩ rfl (Nat.le_of_ble_eq_true rfl) ?_
    obtain ⟨q87, hf⟩ := ck_e hf
    obtain ⟨n88, tn88, in88⟩ := ix_e q87
    refine e_iast (pc := 203) C dX12_trainPart_203 tn88 in88 ?_
    obtain ⟨h89, eh89, hf⟩ := nn_e hf
    refine e_hp eh89 ?_
    have uh89 : m_t h89 = m_t h84 := by rw [eh89]; exact rfl
    refine e_aload_n (pc := 204) C dX12_trainPart_204 1 rfl rfl ?_
    obtain ⟨t90, hf⟩ := ck_e hf
    refine e_getr (pc := 205) 12 28 C dX12_trainPart_205 (by decide) (by decide) g1429 rfl t90 ?_
    obtain ⟨b91, eb91, hf⟩ := ob_e hf
    refine e_rf eb91 ?_
    refine e_iload_n (pc := 208) C dX12_trainPart_208 0 rfl rfl ?_
    refine e_aload_n (pc := 209) C dX12_trainPart_209 1 rfl rfl ?_
    refine e_aload_n (pc := 210) C dX12_trainPart_210 1 rfl rfl ?_
    refine e_getr (pc := 211) 12 27 C dX12_trainPart_211 (by decide) (by decide) g1428 rfl t90 ?_
    obtain ⟨b92, eb92, hf⟩ := ob_e hf
    refine e_rf eb92 ?_
    refine e_iload_n (pc := 214) C dX12_trainPart_214 0 rfl rfl ?_
    obtain ⟨q93, hf⟩ := ck_e hf
    obtain ⟨n94, tn94, in94⟩ := ix_e q93
    refine e_iald (pc := 215) C dX12_trainPart_215 tn94 in94 ?_
    refine e_sipush (v := (239 : Int32)) (pc := 216) C dX12_trainPart_216 (by decide) ?_
    obtain ⟨r97, h95, y96, hf⟩ := cb_e hf
    refine e_callVi (pc := 219) (st := [.int x82, .ref b91]) 12 C (ct_X12_amount y96) dX12_trainPart_219 (by decide) t90 g1722 g1724 g65 g157 g1725 hd_X12_amount rfl ⟨Nat.le_of_ble_eq_true rfl, Nat.le_of_ble_eq_true rfl⟩ ⟨Nat.le_of_ble_eq_true rfl, Nat.le_of_ble_eq_true rfl⟩ rfl (Nat.le_of_ble_eq_true rfl) ?_
    obtain ⟨q98, hf⟩ := ck_e hf
    obtain ⟨n99, tn99, in99⟩ := ix_e q98
    refine e_iast (pc := 222) C dX12_trainPart_222 tn99 in99 ?_
    obtain ⟨h100, eh100, hf⟩ := nn_e hf
    refine e_hp eh100 ?_
    have uh100 : m_t h100 = m_t h95 := by rw [eh100]; exact rfl
    refine e_aload_n (pc := 223) C dX12_trainPart_223 1 rfl rfl ?_
    obtain ⟨t101, hf⟩ := ck_e hf
    refine e_getr (pc := 224) 12 20 C dX12_trainPart_224 (by decide) (by decide) g1421 rfl t101 ?_
    obtain ⟨b102, eb102, hf⟩ := ob_e hf
    refine e_rf eb102 ?_
    refine e_bipush (v := (8 : Int32)) (pc := 227) C dX12_trainPart_227 (by decide) ?_
    refine e_dup2 (pc := 229) C dX12_trainPart_229 rfl rfl ?_
    obtain ⟨q103, hf⟩ := ck_e hf
    obtain ⟨n104, tn104, in104⟩ := ix_e q103
    refine e_iald (pc := 230) C dX12_trainPart_230 tn104 in104 ?_
    refine e_iconst (v := (1 : Int32)) (pc := 231) C dX12_trainPart_231 (by decide) ?_
    refine e_iadd (pc := 232) C dX12_trainPart_232 ?_
    obtain ⟨q105, hf⟩ := ck_e hf
    obtain ⟨n106, tn106, in106⟩ := ix_e q105
    refine e_iast (pc := 233) C dX12_trainPart_233 tn106 in106 ?_
    obtain ⟨h107, eh107, hf⟩ := nn_e hf
    refine e_hp eh107 ?_
    have uh107 : m_t h107 = m_t h95 := by rw [eh107]; exact uh100
    refine e_goto (pc := 234) (tgt := 241) C dX12_trainPart_234 (by decide) ?_
    obtain rfl := so_e hf
    exact e_vret (pc := 241) C hr dX12_trainPart_241 (Nat.le_of_ble_eq_true rfl) (Nat.le_of_ble_eq_true rfl)
  refine e_tabOut (pc := 1) (tgt := 237) C dX12_trainPart_1 (by have g0 := i_ne 0 (by decide) c1; have g1 := i_ne 1 (by decide) c31; have g2 := i_ne 2 (by decide) c45; have g3 := i_ne 3 (by decide) c49; have g4 := i_ne 4 (by decide) c62; have g5 := i_ne 5 (by decide) c77; omega) (by decide) ?_
  refine e_aload_n (pc := 237) C dX12_trainPart_237 0 rfl rfl ?_
  obtain ⟨t108, hf⟩ := ck_e hf
  obtain ⟨h109, y110, hf⟩ := ob_e hf
  refine e_callVv (pc := 238) (st := []) 12 C (ct_X12_readsCold y110) dX12_trainPart_238 (by decide) t108 g1748 g1750 g70 g157 g1751 hd_X12_readsCold rfl ⟨Nat.le_of_ble_eq_true rfl, Nat.le_of_ble_eq_true rfl⟩ ⟨Nat.le_of_ble_eq_true rfl, Nat.le_of_ble_eq_true rfl⟩ rfl (Nat.le_of_ble_eq_true rfl) ?_
  obtain rfl := so_e hf
  exact e_vret (pc := 241) C hr dX12_trainPart_241 (Nat.le_of_ble_eq_true rfl) (Nat.le_of_ble_eq_true rfl)
theorem dX12_isFull_0 : decode cX12_isFull 0 = .ok (.iload_n 2, 1) := by decide +kernel
theorem dX12_isFull_1 : decode cX12_isFull 1 = .ok (.bipush 40, 2) := by decide +kernel
theorem dX12_isFull_3 : decode cX12_isFull 3 = .ok (.if_icmp .eq 24, 3) := by decide +kernel
theorem dX12_isFull_6 : decode cX12_isFull 6 = .ok (.iload_n 1, 1) := by decide +kernel
theorem dX12_isFull_7 : decode cX12_isFull 7 = .ok (.ifCond .ne 7, 3) := by decide +kernel
theorem dX12_isFull_10 : decode cX12_isFull 10 = .ok (.iconst 1, 1) := by decide +kernel
theorem dX12_isFull_11 : decode cX12_isFull 11 = .ok (.goto 4, 3) := by decide +kernel
theorem dX12_isFull_14 : decode cX12_isFull 14 = .ok (.iconst 0, 1) := by decide +kernel
theorem dX12_isFull_15 : decode cX12_isFull 15 = .ok (.iload_n 2, 1) := by decide +kernel
theorem dX12_isFull_16 : decode cX12_isFull 16 = .ok (.ifCond .ne 7, 3) := by decide +kernel
theorem dX12_isFull_19 : decode cX12_isFull 19 = .ok (.iconst 1, 1) := by decide +kernel
theorem dX12_isFull_20 : decode cX12_isFull 20 = .ok (.goto 4, 3) := by decide +kernel
theorem dX12_isFull_23 : decode cX12_isFull 23 = .ok (.iconst 0, 1) := by decide +kernel
theorem dX12_isFull_24 : decode cX12_isFull 24 = .ok (.if_icmp .eq 5, 3) := by decide +kernel
theorem dX12_isFull_27 : decode cX12_isFull 27 = .ok (.iconst 1, 1) := by decide +kernel
theorem dX12_isFull_28 : decode cX12_isFull 28 = .ok (.ireturn, 1) := by decide +kernel
theorem dX12_isFull_29 : decode cX12_isFull 29 = .ok (.iload_n 1, 1) := by decide +kernel
theorem dX12_isFull_30 : decode cX12_isFull 30 = .ok (.tableswitch 106 1 6 #[38, 54, 106, 106, 72, 89], 38) := by decide +kernel
theorem dX12_isFull_68 : decode cX12_isFull 68 = .ok (.aload_n 0, 1) := by decide +kernel
theorem dX12_isFull_69 : decode cX12_isFull 69 = .ok (.getfield 67, 3) := by decide +kernel
theorem dX12_isFull_72 : decode cX12_isFull 72 = .ok (.iconst 5, 1) := by decide +kernel
theorem dX12_isFull_73 : decode cX12_isFull 73 = .ok (.iaload, 1) := by decide +kernel
theorem dX12_isFull_74 : decode cX12_isFull 74 = .ok (.iconst 1, 1) := by decide +kernel
theorem dX12_isFull_75 : decode cX12_isFull 75 = .ok (.if_icmp .ne 7, 3) := by decide +kernel
theorem dX12_isFull_78 : decode cX12_isFull 78 = .ok (.iconst 1, 1) := by decide +kernel
theorem dX12_isFull_79 : decode cX12_isFull 79 = .ok (.goto 4, 3) := by decide +kernel
theorem dX12_isFull_82 : decode cX12_isFull 82 = .ok (.iconst 0, 1) := by decide +kernel
theorem dX12_isFull_83 : decode cX12_isFull 83 = .ok (.ireturn, 1) := by decide +kernel
theorem dX12_isFull_84 : decode cX12_isFull 84 = .ok (.aload_n 0, 1) := by decide +kernel
theorem dX12_isFull_85 : decode cX12_isFull 85 = .ok (.getfield 67, 3) := by decide +kernel
theorem dX12_isFull_88 : decode cX12_isFull 88 = .ok (.bipush 6, 2) := by decide +kernel
theorem dX12_isFull_90 : decode cX12_isFull 90 = .ok (.iaload, 1) := by decide +kernel
theorem dX12_isFull_91 : decode cX12_isFull 91 = .ok (.bipush 8, 2) := by decide +kernel
theorem dX12_isFull_93 : decode cX12_isFull 93 = .ok (.if_icmp .ne 7, 3) := by decide +kernel
theorem dX12_isFull_96 : decode cX12_isFull 96 = .ok (.iconst 1, 1) := by decide +kernel
theorem dX12_isFull_97 : decode cX12_isFull 97 = .ok (.goto 4, 3) := by decide +kernel
theorem dX12_isFull_100 : decode cX12_isFull 100 = .ok (.iconst 0, 1) := by decide +kernel
theorem dX12_isFull_101 : decode cX12_isFull 101 = .ok (.ireturn, 1) := by decide +kernel
theorem dX12_isFull_102 : decode cX12_isFull 102 = .ok (.aload_n 0, 1) := by decide +kernel
theorem dX12_isFull_103 : decode cX12_isFull 103 = .ok (.getfield 67, 3) := by decide +kernel
theorem dX12_isFull_106 : decode cX12_isFull 106 = .ok (.bipush 8, 2) := by decide +kernel
theorem dX12_isFull_108 : decode cX12_isFull 108 = .ok (.iaload, 1) := by decide +kernel
theorem dX12_isFull_109 : decode cX12_isFull 109 = .ok (.iconst 5, 1) := by decide +kernel
theorem dX12_isFull_110 : decode cX12_isFull 110 = .ok (.if_icmp .ne 7, 3) := by decide +kernel
theorem dX12_isFull_113 : decode cX12_isFull 113 = .ok (.iconst 1, 1) := by decide +kernel
theorem dX12_isFull_114 : decode cX12_isFull 114 = .ok (.goto 4, 3) := by decide +kernel
theorem dX12_isFull_117 : decode cX12_isFull 117 = .ok (.iconst 0, 1) := by decide +kernel
theorem dX12_isFull_118 : decode cX12_isFull 118 = .ok (.ireturn, 1) := by decide +kernel
theorem dX12_isFull_119 : decode cX12_isFull 119 = .ok (.aload_n 0, 1) := by decide +kernel
theorem dX12_isFull_120 : decode cX12_isFull 120 = .ok (.getfield 67, 3) := by decide +kernel
theorem dX12_isFull_123 : decode cX12_isFull 123 = .ok (.bipush 9, 2) := by decide +kernel
theorem dX12_isFull_125 : decode cX12_isFull 125 = .ok (.iaload, 1) := by decide +kernel
theorem dX12_isFull_126 : decode cX12_isFull 126 = .ok (.iconst 5, 1) := by decide +kernel
theorem dX12_isFull_127 : decode cX12_isFull 127 = .ok (.if_icmp .ne 7, 3) := by decide +kernel
theorem dX12_isFull_130 : decode cX12_isFull 130 = .ok (.iconst 1, 1) := by decide +kernel
theorem dX12_isFull_131 : decode cX12_isFull 131 = .ok (.goto 4, 3) := by decide +kernel
theorem dX12_isFull_134 : decode cX12_isFull 134 = .ok (.iconst 0, 1) := by decide +kernel
theorem dX12_isFull_135 : decode cX12_isFull 135 = .ok (.ireturn, 1) := by decide +kernel
theorem dX12_isFull_136 : decode cX12_isFull 136 = .ok (.iconst 0, 1) := by decide +kernel
theorem dX12_isFull_137 : decode cX12_isFull 137 = .ok (.ireturn, 1) := by decide +kernel
def f_X12_isFull (G : GG) (v0 : Nat) (v1 : Int32) (v2 : Int32) (h : AH) : Option (Int32 × AH) :=
if v2 = (40 : Int32) then (some ((1 : Int32), h)) else
nn (fun (s0_15 : Int32) => (nn (fun (s0_24 : Int32) => (if s0_15 = s0_24 then (if v1 = (1 : Int32) then (ck (m_t h v0 = .inl 12) <|
ob (m_r h v0 20) fun b5 =>
ck (ixb h b5 .int (5 : Int32) = true) <|
if (m_i h b5 (5 : Int32).toNatClampNeg) = (1 : Int32) then (some ((1 : Int32), h)) else
some ((0 : Int32), h)) else
if v1 = (2 : Int32) then (ck (m_t h v0 = .inl 12) <|
ob (m_r h v0 20) fun b11 =>
ck (ixb h b11 .int (6 : Int32) = true) <|
if (m_i h b11 (6 : Int32).toNatClampNeg) = (8 : Int32) then (some ((1 : Int32), h)) else
some ((0 : Int32), h)) else
if v1 = (3 : Int32) then (some ((0 : Int32), h)) else
if v1 = (4 : Int32) then (some ((0 : Int32), h)) else
if v1 = (5 : Int32) then (ck (m_t h v0 = .inl 12) <|
ob (m_r h v0 20) fun b19 =>
ck (ixb h b19 .int (8 : Int32) = true) <|
if (m_i h b19 (8 : Int32).toNatClampNeg) = (5 : Int32) then (some ((1 : Int32), h)) else
some ((0 : Int32), h)) else
if v1 = (6 : Int32) then (ck (m_t h v0 = .inl 12) <|
ob (m_r h v0 20) fun b25 =>
ck (ixb h b25 .int (9 : Int32) = true) <|
if (m_i h b25 (9 : Int32).toNatClampNeg) = (5 : Int32) then (some ((1 : Int32), h)) else
some ((0 : Int32), h)) else
some ((0 : Int32), h)) else
some ((1 : Int32), h))) fun j_24 =>
if v2 = 0 then (j_24 (1 : Int32)) else
j_24 (0 : Int32))) fun j_15 =>
if v1 = 0 then (j_15 (1 : Int32)) else
j_15 (0 : Int32)
set_option maxHeartbeats 4000000 in
set_option maxRecDepth 100000 in
theorem ct_X12_isFull {G : GG} {l : Launch} {v0 : Nat} {v1 : Int32} {v2 : Int32} {h : AH} {y : Int32 × AH} (hf : f_X12_isFull G v0 v1 v2 h = some y) : Ct G l yX12_isFull cX12_isFull 3 (some .boolean) 0 0 0 0 [.ref v0, .int v1, .int v2] h (some (.int y.1), y.2) := by
  refine ct_of (by decide) (Nat.le_of_ble_eq_true rfl) ?_
  intro p e s m args below meth c C hm hr hin
  have C : Cx G cX12_isFull RX12 p s m args meth c := C
  refine e_lv (lv2 := [(0, .ref v0), (1, .int v1), (2, .int v2)]) [0, 1, 2] rfl ?_
  unfold f_X12_isFull at hf
  refine e_iload_n (pc := 0) C dX12_isFull_0 2 rfl rfl ?_
  refine e_bipush (v := (40 : Int32)) (pc := 1) C dX12_isFull_1 (by decide) ?_
  rcases it_e hf with ⟨c1, hf⟩ | ⟨c1, hf⟩
  · refine e_icmp_eq (pc := 3) (tgt := 27) C dX12_isFull_3 (by decide) (fun _ => ?_) (fun q => absurd c1 q)
    refine e_iconst (v := (1 : Int32)) (pc := 27) C dX12_isFull_27 (by decide) ?_
    obtain rfl := so_e hf
    exact e_zret (pc := 28) (v := (1 : Int32)) C hr (nz_ok (by decide)) dX12_isFull_28 (Nat.le_of_ble_eq_true rfl) (Nat.le_of_ble_eq_true rfl)
  · refine e_icmp_eq (pc := 3) (tgt := 27) C dX12_isFull_3 (by decide) (fun q => absurd q c1) (fun _ => ?_)
    refine e_iload_n (pc := 6) C dX12_isFull_6 1 rfl rfl ?_
    obtain ⟨j_15, ej_15, hf⟩ := nn_e hf
    have W_15 : ∀ (s0_15 : Int32), j_15 s0_15 = some y → EE G p l e ({ frames := 0, cells := 0, slots := 0, locals := 0 } : Room) s m args below meth c (some (.int y.1), y.2) 0 0 15 [(0, .ref v0), (1, .int v1), (2, .int v2)] [.int s0_15] h 0 0 := by
      intro s0_15 hf
      rw [ej_15] at hf
      refine e_iload_n (pc := 15) C dX12_isFull_15 2 rfl rfl ?_
      obtain ⟨j_24, ej_24, hf⟩ := nn_e hf
      have W_24 : ∀ (s0_24 : Int32), j_24 s0_24 = some y → EE G p l e ({ frames := 0, cells := 0, slots := 0, locals := 0 } : Room) s m args below meth c (some (.int y.1), y.2) 0 0 24 [(0, .ref v0), (1, .int v1)] [.int s0_24, .int s0_15] h 0 0 := by
        intro s0_24 hf
        rw [ej_24] at hf
        rcases it_e hf with ⟨c2, hf⟩ | ⟨c2, hf⟩
        · refine e_icmp_eq (pc := 24) (tgt := 29) C dX12_isFull_24 (by decide) (fun _ => ?_) (fun q => absurd c2 q)
          refine e_iload_n (pc := 29) C dX12_isFull_29 1 rfl rfl ?_
          rcases it_e hf with ⟨c3, hf⟩ | ⟨c3, hf⟩
          · refine e_tabK (pc := 30) (tgt := 68) (1 : Int32) c3 C dX12_isFull_30 (by decide) (by decide) rfl (by decide) ?_
            refine e_aload_n (pc := 68) C dX12_isFull_68 0 rfl rfl ?_
            obtain ⟨t4, hf⟩ := ck_e hf
            refine e_getr (pc := 69) 12 20 C dX12_isFull_69 (by decide) (by decide) g1421 rfl t4 ?_
            obtain ⟨b5, eb5, hf⟩ := ob_e hf
            refine e_rf eb5 ?_
            refine e_iconst (v := (5 : Int32)) (pc := 72) C dX12_isFull_72 (by decide) ?_
            obtain ⟨q6, hf⟩ := ck_e hf
            obtain ⟨n7, tn7, in7⟩ := ix_e q6
            refine e_iald (pc := 73) C dX12_isFull_73 tn7 in7 ?_
            refine e_iconst (v := (1 : Int32)) (pc := 74) C dX12_isFull_74 (by decide) ?_
            rcases it_e hf with ⟨c8, hf⟩ | ⟨c8, hf⟩
            · refine e_icmp_ne (pc := 75) (tgt := 82) C dX12_isFull_75 (by decide) (fun q => absurd c8 q) (fun _ => ?_)
              refine e_iconst (v := (1 : Int32)) (pc := 78) C dX12_isFull_78 (by decide) ?_
              refine e_goto (pc := 79) (tgt := 83) C dX12_isFull_79 (by decide) ?_
              obtain rfl := so_e hf
              exact e_zret (pc := 83) (v := (1 : Int32)) C hr (nz_ok (by decide)) dX12_isFull_83 (Nat.le_of_ble_eq_true rfl) (Nat.le_of_ble_eq_true rfl)
            · refine e_icmp_ne (pc := 75) (tgt := 82) C dX12_isFull_75 (by decide) (fun _ => ?_) (fun q => absurd q c8)
              refine e_iconst (v := (0 : Int32)) (pc := 82) C dX12_isFull_82 (by decide) ?_
              obtain rfl := so_e hf
              exact e_zret (pc := 83) (v := (0 : Int32)) C hr (nz_ok (by decide)) dX12_isFull_83 (Nat.le_of_ble_eq_true rfl) (Nat.le_of_ble_eq_true rfl)
          rcases it_e hf with ⟨c9, hf⟩ | ⟨c9, hf⟩
          · refine e_tabK (pc := 30) (tgt := 84) (2 : Int32) c9 C dX12_isFull_30 (by decide) (by decide) rfl (by decide) ?_
            refine e_aload_n (pc := 84) C dX12_isFull_84 0 rfl rfl ?_
            obtain ⟨t10, hf⟩ := ck_e hf
            refine e_getr (pc := 85) 12 20 C dX12_isFull_85 (by decide) (by decide) g1421 rfl t10 ?_
            obtain ⟨b11, eb11, hf⟩ := ob_e hf
            refine e_rf eb11 ?_
            refine e_bipush (v := (6 : Int32)) (pc := 88) C dX12_isFull_88 (by decide) ?_
            obtain ⟨q12, hf⟩ := ck_e hf
            obtain ⟨n13, tn13, in13⟩ := ix_e q12
            refine e_iald (pc := 90) C dX12_isFull_90 tn13 in13 ?_
            refine e_bipush (v := (8 : Int32)) (pc := 91) C dX12_isFull_91 (by decide) ?_
            rcases it_e hf with ⟨c14, hf⟩ | ⟨c14, hf⟩
            · refine e_icmp_ne (pc := 93) (tgt := 100) C dX12_isFull_93 (by decide) (fun q => absurd c14 q) (fun _ => ?_)
              refine e_iconst (v := (1 : Int32)) (pc := 96) C dX12_isFull_96 (by decide) ?_
              refine e_goto (pc := 97) (tgt := 101) C dX12_isFull_97 (by decide) ?_
              obtain rfl := so_e hf
              exact e_zret (pc := 101) (v := (1 : Int32)) C hr (nz_ok (by decide)) dX12_isFull_101 (Nat.le_of_ble_eq_true rfl) (Nat.le_of_ble_eq_true rfl)
            · refine e_icmp_ne (pc := 93) (tgt := 100) C dX12_isFull_93 (by decide) (fun _ => ?_) (fun q => absurd q c14)
              refine e_iconst (v := (0 : Int32)) (pc := 100) C dX12_isFull_100 (by decide) ?_
              obtain rfl := so_e hf
              exact e_zret (pc := 101) (v := (0 : Int32)) C hr (nz_ok (by decide)) dX12_isFull_101 (Nat.le_of_ble_eq_true rfl) (Nat.le_of_ble_eq_true rfl)
          rcases it_e hf with ⟨c15, hf⟩ | ⟨c15, hf⟩
          · refine e_tabK (pc := 30) (tgt := 136) (3 : Int32) c15 C dX12_isFull_30 (by decide) (by decide) rfl (by decide) ?_
            refine e_iconst (v := (0 : Int32)) (pc := 136) C dX12_isFull_136 (by decide) ?_
            obtain rfl := so_e hf
            exact e_zret (pc := 137) (v := (0 : Int32)) C hr (nz_ok (by decide)) dX12_isFull_137 (Nat.le_of_ble_eq_true rfl) (Nat.le_of_ble_eq_true rfl)
          rcases it_e hf with ⟨c16, hf⟩ | ⟨c16, hf⟩
          · refine e_tabK (pc := 30) (tgt := 136) (4 : Int32) c16 C dX12_isFull_30 (by decide) (by decide) rfl (by decide) ?_
            refine e_iconst (v := (0 : Int32)) (pc := 136) C dX12_isFull_136 (by decide) ?_
            obtain rfl := so_e hf
            exact e_zret (pc := 137) (v := (0 : Int32)) C hr (nz_ok (by decide)) dX12_isFull_137 (Nat.le_of_ble_eq_true rfl) (Nat.le_of_ble_eq_true rfl)
          rcases it_e hf with ⟨c17, hf⟩ | ⟨c17, hf⟩
          · refine e_tabK (pc := 30) (tgt := 102) (5 : Int32) c17 C dX12_isFull_30 (by decide) (by decide) rfl (by decide) ?_
            refine e_aload_n (pc := 102) C dX12_isFull_102 0 rfl rfl ?_
            obtain ⟨t18, hf⟩ := ck_e hf
            refine e_getr (pc := 103) 12 20 C dX12_isFull_103 (by decide) (by decide) g1421 rfl t18 ?_
            obtain ⟨b19, eb19, hf⟩ := ob_e hf
            refine e_rf eb19 ?_
            refine e_bipush (v := (8 : Int32)) (pc := 106) C dX12_isFull_106 (by decide) ?_
            obtain ⟨q20, hf⟩ := ck_e hf
            obtain ⟨n21, tn21, in21⟩ := ix_e q20
            refine e_iald (pc := 108) C dX12_isFull_108 tn21 in21 ?_
            refine e_iconst (v := (5 : Int32)) (pc := 109) C dX12_isFull_109 (by decide) ?_
            rcases it_e hf with ⟨c22, hf⟩ | ⟨c22, hf⟩
            · refine e_icmp_ne (pc := 110) (tgt := 117) C dX12_isFull_110 (by decide) (fun q => absurd c22 q) (fun _ => ?_)
              refine e_iconst (v := (1 : Int32)) (pc := 113) C dX12_isFull_113 (by decide) ?_
              refine e_goto (pc := 114) (tgt := 118) C dX12_isFull_114 (by decide) ?_
              obtain rfl := so_e hf
              exact e_zret (pc := 118) (v := (1 : Int32)) C hr (nz_ok (by decide)) dX12_isFull_118 (Nat.le_of_ble_eq_true rfl) (Nat.le_of_ble_eq_true rfl)
            · refine e_icmp_ne (pc := 110) (tgt := 117) C dX12_isFull_110 (by decide) (fun _ => ?_) (fun q => absurd q c22)
              refine e_iconst (v := (0 : Int32)) (pc := 117) C dX12_isFull_117 (by decide) ?_
              obtain rfl := so_e hf
              exact e_zret (pc := 118) (v := (0 : Int32)) C hr (nz_ok (by decide)) dX12_isFull_118 (Nat.le_of_ble_eq_true rfl) (Nat.le_of_ble_eq_true rfl)
          rcases it_e hf with ⟨c23, hf⟩ | ⟨c23, hf⟩
          · refine e_tabK (pc := 30) (tgt := 119) (6 : Int32) c23 C dX12_isFull_30 (by decide) (by decide) rfl (by decide) ?_
            refine e_aload_n (pc := 119) C dX12_isFull_119 0 rfl rfl ?_
            obtain ⟨t24, hf⟩ := ck_e hf
            refine e_getr (pc := 120) 12 20 C dX12_isFull_120 (by decide) (by decide) g1421 rfl t24 ?_
            obtain ⟨b25, eb25, hf⟩ := ob_e hf
            refine e_rf eb25 ?_
            refine e_bipush (v := (9 : Int32)) (pc := 123) C dX12_isFull_123 (by decide) ?_
            obtain ⟨q26, hf⟩ := ck_e hf
            obtain ⟨n27, tn27, in27⟩ := ix_e q26
            refine e_iald (pc := 125) C dX12_isFull_125 tn27 in27 ?_
            refine e_iconst (v := (5 : Int32)) (pc := 126) C dX12_isFull_126 (by decide) ?_
            rcases it_e hf with ⟨c28, hf⟩ | ⟨c28, hf⟩
            · refine e_icmp_ne (pc := 127) (tgt := 134) C dX12_isFull_127 (by decide) (fun q => absurd c28 q) (fun _ => ?_)
              refine e_iconst (v := (1 : Int32)) (pc := 130) C dX12_isFull_130 (by decide) ?_
              refine e_goto (pc := 131) (tgt := 135) C dX12_isFull_131 (by decide) ?_
              obtain rfl := so_e hf
              exact e_zret (pc := 135) (v := (1 : Int32)) C hr (nz_ok (by decide)) dX12_isFull_135 (Nat.le_of_ble_eq_true rfl) (Nat.le_of_ble_eq_true rfl)
            · refine e_icmp_ne (pc := 127) (tgt := 134) C dX12_isFull_127 (by decide) (fun _ => ?_) (fun q => absurd q c28)
              refine e_iconst (v := (0 : Int32)) (pc := 134) C dX12_isFull_134 (by decide) ?_
              obtain rfl := so_e hf
              exact e_zret (pc := 135) (v := (0 : Int32)) C hr (nz_ok (by decide)) dX12_isFull_135 (Nat.le_of_ble_eq_true rfl) (Nat.le_of_ble_eq_true rfl)
          refine e_tabOut (pc := 30) (tgt := 136) C dX12_isFull_30 (by have g0 := i_ne 1 (by decide) c3; have g1 := i_ne 2 (by decide) c9; have g2 := i_ne 3 (by decide) c15; have g3 := i_ne 4 (by decide) c16; have g4 := i_ne 5 (by decide) c17; have g5 := i_ne 6 (by decide) c23; omega) (by decide) ?_
          refine e_iconst (v := (0 : Int32)) (pc := 136) C dX12_isFull_136 (by decide) ?_
          obtain rfl := so_e hf
          exact e_zret (pc := 137) (v := (0 : Int32)) C hr (nz_ok (by decide)) dX12_isFull_137 (Nat.le_of_ble_eq_true rfl) (Nat.le_of_ble_eq_true rfl)
        · refine e_icmp_eq (pc := 24) (tgt := 29) C dX12_isFull_24 (by decide) (fun q => absurd q c2) (fun _ => ?_)
          refine e_iconst (v := (1 : Int32)) (pc := 27) C dX12_isFull_27 (by decide) ?_
          obtain rfl := so_e hf
          exact e_zret (pc := 28) (v := (1 : Int32)) C hr (nz_ok (by decide)) dX12_isFull_28 (Nat.le_of_ble_eq_true rfl) (Nat.le_of_ble_eq_true rfl)
      rcases it_e hf with ⟨c29, hf⟩ | ⟨c29, hf⟩
      · refine e_if_ne (pc := 16) (tgt := 23) C dX12_isFull_16 (by decide) (fun q => absurd c29 q) (fun _ => ?_)
        refine e_iconst (v := (1 : Int32)) (pc := 19) C dX12_isFull_19 (by decide) ?_
        refine e_goto (pc := 20) (tgt := 24) C dX12_isFull_20 (by decide) ?_
        refine e_lv (lv2 := [(0, .ref v0), (1, .int v1)]) [0, 1] rfl ?_
        exact W_24 (1 : Int32) hf
      · refine e_if_ne (pc := 16) (tgt := 23) C dX12_isFull_16 (by decide) (fun _ => ?_) (fun q => absurd q c29)
        refine e_iconst (v := (0 : Int32)) (pc := 23) C dX12_isFull_23 (by decide) ?_
        refine e_lv (lv2 := [(0, .ref v0), (1, .int v1)]) [0, 1] rfl ?_
        exact W_24 (0 : Int32) hf
    rcases it_e hf with ⟨c30, hf⟩ | ⟨c30, hf⟩
    · refine e_if_ne (pc := 7) (tgt := 14) C dX12_isFull_7 (by decide) (fun q => absurd c30 q) (fun _ => ?_)
      refine e_iconst (v := (1 : Int32)) (pc := 10) C dX12_isFull_10 (by decide) ?_
      refine e_goto (pc := 11) (tgt := 15) C dX12_isFull_11 (by decide) ?_
      exact W_15 (1 : Int32) hf
    · refine e_if_ne (pc := 7) (tgt := 14) C dX12_isFull_7 (by decide) (fun _ => ?_) (fun q => absurd q c30)
      refine e_iconst (v := (0 : Int32)) (pc := 14) C dX12_isFull_14 (by decide) ?_
      exact W_15 (0 : Int32) hf
theorem dX12_trainClause_0 : decode cX12_trainClause 0 = .ok (.aload_n 0, 1) := by decide +kernel
theorem dX12_trainClause_1 : decode cX12_trainClause 1 = .ok (.invokevirtual 266, 3) := by decide +kernel
theorem dX12_trainClause_4 : decode cX12_trainClause 4 = .ok (.aload_n 0, 1) := by decide +kernel
theorem dX12_trainClause_5 : decode cX12_trainClause 5 = .ok (.getfield 246, 3) := by decide +kernel
theorem dX12_trainClause_8 : decode cX12_trainClause 8 = .ok (.istore_n 2, 1) := by decide +kernel
theorem dX12_trainClause_9 : decode cX12_trainClause 9 = .ok (.iconst 0, 1) := by decide +kernel
theorem dX12_trainClause_10 : decode cX12_trainClause 10 = .ok (.istore_n 3, 1) := by decide +kernel
theorem dX12_trainClause_11 : decode cX12_trainClause 11 = .ok (.iload_n 3, 1) := by decide +kernel
theorem dX12_trainClause_12 : decode cX12_trainClause 12 = .ok (.bipush 7, 2) := by decide +kernel
theorem dX12_trainClause_14 : decode cX12_trainClause 14 = .ok (.if_icmp .ge 20, 3) := by decide +kernel
theorem dX12_trainClause_17 : decode cX12_trainClause 17 = .ok (.aload_n 0, 1) := by decide +kernel
theorem dX12_trainClause_18 : decode cX12_trainClause 18 = .ok (.iload_n 3, 1) := by decide +kernel
theorem dX12_trainClause_19 : decode cX12_trainClause 19 = .ok (.invokestatic 364, 3) := by decide +kernel
theorem dX12_trainClause_22 : decode cX12_trainClause 22 = .ok (.invokevirtual 269, 3) := by decide +kernel
theorem dX12_trainClause_25 : decode cX12_trainClause 25 = .ok (.ifCond .ne 9, 3) := by decide +kernel
theorem dX12_trainClause_28 : decode cX12_trainClause 28 = .ok (.iinc 3 1, 3) := by decide +kernel
theorem dX12_trainClause_31 : decode cX12_trainClause 31 = .ok (.goto (-20), 3) := by decide +kernel
theorem dX12_trainClause_34 : decode cX12_trainClause 34 = .ok (.iload_n 3, 1) := by decide +kernel
theorem dX12_trainClause_35 : decode cX12_trainClause 35 = .ok (.bipush 7, 2) := by decide +kernel
theorem dX12_trainClause_37 : decode cX12_trainClause 37 = .ok (.if_icmp .ne 10, 3) := by decide +kernel
theorem dX12_trainClause_40 : decode cX12_trainClause 40 = .ok (.aload_n 0, 1) := by decide +kernel
theorem dX12_trainClause_41 : decode cX12_trainClause 41 = .ok (.iconst 0, 1) := by decide +kernel
theorem dX12_trainClause_42 : decode cX12_trainClause 42 = .ok (.iload_n 2, 1) := by decide +kernel
theorem dX12_trainClause_43 : decode cX12_trainClause 43 = .ok (.invokevirtual 282, 3) := by decide +kernel
theorem dX12_trainClause_46 : decode cX12_trainClause 46 = .ok (.return_, 1) := by decide +kernel
theorem dX12_trainClause_47 : decode cX12_trainClause 47 = .ok (.aload_n 0, 1) := by decide +kernel
theorem dX12_trainClause_48 : decode cX12_trainClause 48 = .ok (.iload_n 3, 1) := by decide +kernel
theorem dX12_trainClause_49 : decode cX12_trainClause 49 = .ok (.iload_n 1, 1) := by decide +kernel
theorem dX12_trainClause_50 : decode cX12_trainClause 50 = .ok (.invokevirtual 367, 3) := by decide +kernel
theorem dX12_trainClause_53 : decode cX12_trainClause 53 = .ok (.ifCond .eq 10, 3) := by decide +kernel
theorem dX12_trainClause_56 : decode cX12_trainClause 56 = .ok (.aload_n 0, 1) := by decide +kernel
theorem dX12_trainClause_57 : decode cX12_trainClause 57 = .ok (.iconst 4, 1) := by decide +kernel
theorem dX12_trainClause_58 : decode cX12_trainClause 58 = .ok (.iload_n 2, 1) := by decide +kernel
theorem dX12_trainClause_59 : decode cX12_trainClause 59 = .ok (.invokevirtual 282, 3) := by decide +kernel
theorem dX12_trainClause_62 : decode cX12_trainClause 62 = .ok (.return_, 1) := by decide +kernel
theorem dX12_trainClause_63 : decode cX12_trainClause 63 = .ok (.aload_n 0, 1) := by decide +kernel
theorem dX12_trainClause_64 : decode cX12_trainClause 64 = .ok (.dup, 1) := by decide +kernel
theorem dX12_trainClause_65 : decode cX12_trainClause 65 = .ok (.getfield 246, 3) := by decide +kernel
theorem dX12_trainClause_68 : decode cX12_trainClause 68 = .ok (.iload_n 3, 1) := by decide +kernel
theorem dX12_trainClause_69 : decode cX12_trainClause 69 = .ok (.invokestatic 364, 3) := by decide +kernel
theorem dX12_trainClause_72 : decode cX12_trainClause 72 = .ok (.invokevirtual 257, 3) := by decide +kernel
theorem dX12_trainClause_75 : decode cX12_trainClause 75 = .ok (.iadd, 1) := by decide +kernel
theorem dX12_trainClause_76 : decode cX12_trainClause 76 = .ok (.putfield 246, 3) := by decide +kernel
theorem dX12_trainClause_79 : decode cX12_trainClause 79 = .ok (.aload_n 0, 1) := by decide +kernel
theorem dX12_trainClause_80 : decode cX12_trainClause 80 = .ok (.iload_n 3, 1) := by decide +kernel
theorem dX12_trainClause_81 : decode cX12_trainClause 81 = .ok (.invokevirtual 371, 3) := by decide +kernel
theorem dX12_trainClause_84 : decode cX12_trainClause 84 = .ok (.return_, 1) := by decide +kernel
def F_X12_trainClause_11 (G : GG) (v0 : Nat) (v1 : Int32) (v2 : Int32) (K_34 : Int32 → AH → Option (AH)) (self_11 : Int32 → AH → Option (AH)) (v3 : Int32) (h : AH) : Option (AH) :=
if (7 : Int32) ≤ v3 then (K_34 v3 h) else
cb (f_X12_trainWord G v3 h) fun r9 h7 =>
ck (m_t h7 v0 = .inl 12) <|
cb (f_X12_stood G v0 r9 h7) fun r13 h11 =>
if r13 = 0 then (nn (v3 + (1 : Int32)) fun x15 =>
self_11 x15 h11) else
K_34 v3 h11
def f_X12_trainClause (G : GG) (v0 : Nat) (v1 : Int32) (h : AH) : Option (AH) :=
ck (m_t h v0 = .inl 12) <|
ob (f_X12_blanks G v0 h) fun h2 =>
ck (m_t h2 v0 = .inl 12) <|
nn (m_i h2 v0 33) fun x5 =>
lq1 (F_X12_trainClause_11 G v0 v1 x5 (fun (v3_34 : Int32) (h_34 : AH) => (if v3_34 = (7 : Int32) then (ck (m_t h_34 v0 = .inl 12) <|
ob (f_X12_fails G v0 (0 : Int32) x5 h_34) fun h18 =>
some h18) else
ck (m_t h_34 v0 = .inl 12) <|
cb (f_X12_isFull G v0 v3_34 v1 h_34) fun r23 h21 =>
if r23 = 0 then (ck (m_t h21 v0 = .inl 12) <|
cb (f_X12_trainWord G v3_34 h21) fun r28 h26 =>
cb (f_J0_length_8abf5 G r28 h26) fun r31 h29 =>
ck (m_t h29 v0 = .inl 12) <|
nn (m_si h29 v0 33 ((m_i h21 v0 33) + r31)) fun h33 =>
ob (f_X12_trainPart G v0 v3_34 h33) fun h34 =>
some h34) else
ck (m_t h21 v0 = .inl 12) <|
ob (f_X12_fails G v0 (4 : Int32) x5 h21) fun h37 =>
some h37))) bN (0 : Int32) h2
set_option maxHeartbeats 4000000 in
set_option maxRecDepth 100000 in
theorem el_X12_trainClause_11 {G : GG} {p : Program} {l : Launch} {e : Env} {s : State} {m : MethodId} {args : Array Value} {below : List Frame} {meth : Method} {c : Code} {y : AH} (C : Cx G cX12_trainClause RX12 p s m args meth c) (hm : c.maxLocals = 4) (hr : meth.sig.returnType = none) (hin : meth.name = yX12_trainClause.name) {v0 : Nat} {v1 : Int32} {v2 : Int32} {K_34 : Int32 → AH → Option (AH)} (hK_34 : ∀ (w3 : Int32) (h : AH), K_34 w3 h = some y → EE G p l e ({ frames := 6, cells := 0, slots := 0, locals := 136 } : Room) s m args below meth c (none, y) 0 0 34 [(0, .ref v0), (1, .int v1), (2, .int v2), (3, .int w3)] [] h 0 0) :
    ∀ (n : Nat) (v3 : Int32) (h : AH), lq1 (F_X12_trainClause_11 G v0 v1 v2 K_34) n v3 h = some y → EE G p l e ({ frames := 6, cells := 0, slots := 0, locals := 136 } : Room) s m args below meth c (none, y) 0 0 11 [(0, .ref v0), (1, .int v1), (2, .int v2), (3, .int v3)] [] h 0 0 := by
  intro n
  induction n with
  | zero => intro v3 h hf; exact (no_e hf).elim
  | succ n ih_11 =>
    intro v3 h hf
    have hf : F_X12_trainClause_11 G v0 v1 v2 K_34 (lq1 (F_X12_trainClause_11 G v0 v1 v2 K_34) n) v3 h = some y := hf
    generalize lq1 (F_X12_trainClause_11 G v0 v1 v2 K_34) n = self_11 at hf ih_11
    unfold F_X12_trainClause_11 at hf
    refine e_iload_n (pc := 11) C dX12_trainClause_11 3 rfl rfl ?_
    refine e_bipush (v := (7 : Int32)) (pc := 12) C dX12_trainClause_12 (by decide) ?_
    rcases it_e hf with ⟨c6, hf⟩ | ⟨c6, hf⟩
    · refine e_icmp_ge (pc := 14) (tgt := 34) C dX12_trainClause_14 (by decide) (fun _ => ?_) (fun q => absurd c6 q)
      exact hK_34 v3 h hf
    · refine e_icmp_ge (pc := 14) (tgt := 34) C dX12_trainClause_14 (by decide) (fun q => absurd q c6) (fun _ => ?_)
      refine e_aload_n (pc := 17) C dX12_trainClause_17 0 rfl rfl ?_
      refine e_iload_n (pc := 18) C dX12_trainClause_18 3 rfl rfl ?_
      obtain ⟨r9, h7, y8, hf⟩ := cb_e hf
      refine e_callSi (pc := 19) (st := [.ref v0]) C (ct_X12_trainWord y8) dX12_trainClause_19 g1694 g1695 g157 g1696 hd_X12_trainWord rfl ⟨Nat.le_of_ble_eq_true rfl, Nat.le_of_ble_eq_true rfl⟩ ⟨Nat.le_of_ble_eq_true rfl, Nat.le_of_ble_eq_true rfl⟩ rfl (Nat.le_of_ble_eq_true rfl) ?_
      obtain ⟨t10, hf⟩ := ck_e hf
      obtain ⟨r13, h11, y12, hf⟩ := cb_e hf
      refine e_callVi (pc := 22) (st := []) 12 C (ct_X12_stood y12) dX12_trainClause_22 (by decide) t10 g1704 g1706 g61 g157 g1707 hd_X12_stood rfl ⟨Nat.le_of_ble_eq_true rfl, Nat.le_of_ble_eq_true rfl⟩ ⟨Nat.le_of_ble_eq_true rfl, Nat.le_of_ble_eq_true rfl⟩ rfl (Nat.le_of_ble_eq_true rfl) ?_
      rcases it_e hf with ⟨c14, hf⟩ | ⟨c14, hf⟩
      · refine e_if_ne (pc := 25) (tgt := 34) C dX12_trainClause_25 (by decide) (fun q => absurd c14 q) (fun _ => ?_)
        obtain ⟨x15, ex15, hf⟩ := nn_e hf
        refine e_iinc (pc := 28) (v := x15) (lv2 := [(3, .int x15), (0, .ref v0), (1, .int v1), (2, .int v2)]) C hm dX12_trainClause_28 3 rfl (by rw [ex15]; rfl) (by decide) rfl ?_
        refine e_goto (pc := 31) (tgt := 11) C dX12_trainClause_31 (by decide) ?_
        refine e_lv (lv2 := [(0, .ref v0), (1, .int v1), (2, .int v2), (3, .int x15)]) [1, 2, 3, 0] rfl ?_
        exact ih_11 x15 h11 hf
      · refine e_if_ne (pc := 25) (tgt := 34) C dX12_trainClause_25 (by decide) (fun _ => ?_) (fun q => absurd q c14)
        exact hK_34 v3 h11 hf
set_option maxHeartbeats 4000000 in
set_option maxRecDepth 100000 in
theorem ct_X12_trainClause {G : GG} {l : Launch} {v0 : Nat} {v1 : Int32} {h : AH} {y : AH} (hf : f_X12_trainClause G v0 v1 h = some y) : Ct G l yX12_trainClause cX12_trainClause 4 none 6 136 0 0 [.ref v0, .int v1] h (none, y) := by
  refine ct_of (by decide) (Nat.le_of_ble_eq_true rfl) ?_
  intro p e s m args below meth c C hm hr hin
  have C : Cx G cX12_trainClause RX12 p s m args meth c := C
  refine e_lv (lv2 := [(0, .ref v0), (1, .int v1)]) [0, 1] rfl ?_
  unfold f_X12_trainClause at hf
  refine e_aload_n (pc := 0) C dX12_trainClause_0 0 rfl rfl ?_
  obtain ⟨t1, hf⟩ := ck_e hf
  obtain ⟨h2, y3, hf⟩ := ob_e hf
  refine e_callVv (pc := 1) (st := []) 12 C (ct_X12_blanks y3) dX12_trainClause_1 (by decide) t1 g1686 g1688 g59 g157 g1689 hd_X12_blanks rfl ⟨Nat.le_of_ble_eq_true rfl, Nat.le_of_ble_eq_true rfl⟩ ⟨Nat.le_of_ble_eq_true rfl, Nat.le_of_ble_eq_true rfl⟩ rfl (Nat.le_of_ble_eq_true rfl) ?_
  refine e_aload_n (pc := 4) C dX12_trainClause_4 0 rfl rfl ?_
  obtain ⟨t4, hf⟩ := ck_e hf
  refine e_geti (pc := 5) 12 33 C dX12_trainClause_5 (by decide) (by decide) g1434 rfl t4 ?_
  obtain ⟨x5, ex5, hf⟩ := nn_e hf
  refine e_topi ex5 ?_
  refine e_istore_n (pc := 8) (lv2 := [(2, .int x5), (0, .ref v0), (1, .int v1)]) C hm dX12_trainClause_8 rfl (by decide) rfl ?_
  refine e_iconst (v := (0 : Int32)) (pc := 9) C dX12_trainClause_9 (by decide) ?_
  refine e_istore_n (pc := 10) (lv2 := [(3, .int (0 : Int32)), (2, .int x5), (0, .ref v0), (1, .int v1)]) C hm dX12_trainClause_10 rfl (by decide) rfl ?_
  refine e_lv (lv2 := [(0, .ref v0), (1, .int v1), (2, .int x5), (3, .int (0 : Int32))]) [2, 3, 1, 0] rfl ?_
  refine el_X12_trainClause_11 C hm hr hin (fun v3_34 h_34 hf => ?_) bN (0 : Int32) h2 hf
  refine e_iload_n (pc := 34) C dX12_trainClause_34 3 rfl rfl ?_
  refine e_bipush (v := (7 : Int32)) (pc := 35) C dX12_trainClause_35 (by decide) ?_
  rcases it_e hf with ⟨c16, hf⟩ | ⟨c16, hf⟩
  · refine e_icmp_ne (pc := 37) (tgt := 47) C dX12_trainClause_37 (by decide) (fun q => absurd c16 q) (fun _ => ?_)
    refine e_aload_n (pc := 40) C dX12_trainClause_40 0 rfl rfl ?_
    refine e_iconst (v := (0 : Int32)) (pc := 41) C dX12_trainClause_41 (by decide) ?_
    refine e_iload_n (pc := 42) C dX12_trainClause_42 2 rfl rfl ?_
    obtain ⟨t17, hf⟩ := ck_e hf
    obtain ⟨h18, y19, hf⟩ := ob_e hf
    refine e_callVv (pc := 43) (st := []) 12 C (ct_X12_fails y19) dX12_trainClause_43 (by decide) t17 g1710 g1712 g62 g157 g1713 hd_X12_fails rfl ⟨Nat.le_of_ble_eq_true rfl, Nat.le_of_ble_eq_true rfl⟩ ⟨Nat.le_of_ble_eq_true rfl, Nat.le_of_ble_eq_true rfl⟩ rfl (Nat.le_of_ble_eq_true rfl) ?_
    obtain rfl := so_e hf
    exact e_vret (pc := 46) C hr dX12_trainClause_46 (Nat.le_of_ble_eq_true rfl) (Nat.le_of_ble_eq_true rfl)
  · refine e_icmp_ne (pc := 37) (tgt := 47) C dX12_trainClause_37 (by decide) (fun _ => ?_) (fun q => absurd q c16)
    refine e_aload_n (pc := 47) C dX12_trainClause_47 0 rfl rfl ?_
    refine e_iload_n (pc := 48) C dX12_trainClause_48 3 rfl rfl ?_
    refine e_iload_n (pc := 49) C dX12_trainClause_49 1 rfl rfl ?_
    obtain ⟨t20, hf⟩ := ck_e hf
    obtain ⟨r23, h21, y22, hf⟩ := cb_e hf
    refine e_callVi (pc := 50) (st := []) 12 C (ct_X12_isFull y22) dX12_trainClause_50 (by decide) t20 g1714 g1716 g63 g157 g1717 hd_X12_isFull rfl ⟨Nat.le_of_ble_eq_true rfl, Nat.le_of_ble_eq_true rfl⟩ ⟨Nat.le_of_ble_eq_true rfl, Nat.le_of_ble_eq_true rfl⟩ rfl (Nat.le_of_ble_eq_true rfl) ?_
    rcases it_e hf with ⟨c24, hf⟩ | ⟨c24, hf⟩
    · refine e_if_eq (pc := 53) (tgt := 63) C dX12_trainClause_53 (by decide) (fun _ => ?_) (fun q => absurd c24 q)
      refine e_aload_n (pc := 63) C dX12_trainClause_63 0 rfl rfl ?_
      refine e_dup (pc := 64) C dX12_trainClause_64 rfl ?_
      obtain ⟨t25, hf⟩ := ck_e hf
      refine e_geti (pc := 65) 12 33 C dX12_trainClause_65 (by decide) (by decide) g1434 rfl t25 ?_
      refine e_iload_n (pc := 68) C dX12_trainClause_68 3 rfl rfl ?_
      obtain ⟨r28, h26, y27, hf⟩ := cb_e hf
      refine e_callSi (pc := 69) (st := [.int (m_i h21 v0 33), .ref v0]) C (ct_X12_trainWord y27) dX12_trainClause_69 g1694 g1695 g157 g1696 hd_X12_trainWord rfl ⟨Nat.le_of_ble_eq_true rfl, Nat.le_of_ble_eq_true rfl⟩ ⟨Nat.le_of_ble_eq_true rfl, Nat.le_of_ble_eq_true rfl⟩ rfl (Nat.le_of_ble_eq_true rfl) ?_
      obtain ⟨r31, h29, y30, hf⟩ := cb_e hf
      refine e_callK (pc := 72) (st := [.int (m_i h21 v0 33), .ref v0]) (sq_J0_length_8abf5 y30) C (ct_J0_length_8abf5 y30) dX12_trainClause_72 g1708 g663 g664 g158 g665 hd_J0_length_8abf5 rfl ⟨Nat.le_of_ble_eq_true rfl, Nat.le_of_ble_eq_true rfl⟩ ⟨Nat.le_of_ble_eq_true rfl, Nat.le_of_ble_eq_true rfl⟩ rfl (Nat.le_of_ble_eq_true rfl) ?_
      refine e_iadd (pc := 75) C dX12_trainClause_75 ?_
      obtain ⟨t32, hf⟩ := ck_e hf
      refine e_puti (pc := 76) 12 33 C dX12_trainClause_76 (by decide) (by decide) g1434 rfl rfl rfl rfl t32 ?_
      obtain ⟨h33, eh33, hf⟩ := nn_e hf
      refine e_hp eh33 ?_
      have uh33 : m_t h33 = m_t h29 := by rw [eh33]; exact rfl
      refine e_aload_n (pc := 79) C dX12_trainClause_79 0 rfl rfl ?_
      refine e_iload_n (pc := 80) C dX12_trainClause_80 3 rfl rfl ?_
      obtain ⟨h34, y35, hf⟩ := ob_e hf
      refine e_callVv (pc := 81) (st := []) 12 C (ct_X12_trainPart y35) dX12_trainClause_81 (by decide) (e_mt uh33 t32) g1718 g1720 g64 g157 g1721 hd_X12_trainPart rfl ⟨Nat.le_of_ble_eq_true rfl, Nat.le_of_ble_eq_true rfl⟩ ⟨Nat.le_of_ble_eq_true rfl, Nat.le_of_ble_eq_true rfl⟩ rfl (Nat.le_of_ble_eq_true rfl) ?_
      obtain rfl := so_e hf
      exact e_vret (pc := 84) C hr dX12_trainClause_84 (Nat.le_of_ble_eq_true rfl) (Nat.le_of_ble_eq_true rfl)
    · refine e_if_eq (pc := 53) (tgt := 63) C dX12_trainClause_53 (by decide) (fun q => absurd q c24) (fun _ => ?_)
      refine e_aload_n (pc := 56) C dX12_trainClause_56 0 rfl rfl ?_
      refine e_iconst (v := (4 : Int32)) (pc := 57) C dX12_trainClause_57 (by decide) ?_
      refine e_iload_n (pc := 58) C dX12_trainClause_58 2 rfl rfl ?_
      obtain ⟨t36, hf⟩ := ck_e hf
      obtain ⟨h37, y38, hf⟩ := ob_e hf
      refine e_callVv (pc := 59) (st := []) 12 C (ct_X12_fails y38) dX12_trainClause_59 (by decide) t36 g1710 g1712 g62 g157 g1713 hd_X12_fails rfl ⟨Nat.le_of_ble_eq_true rfl, Nat.le_of_ble_eq_true rfl⟩ ⟨Nat.le_of_ble_eq_true rfl, Nat.le_of_ble_eq_true rfl⟩ rfl (Nat.le_of_ble_eq_true rfl) ?_
      obtain rfl := so_e hf
      exact e_vret (pc := 62) C hr dX12_trainClause_62 (Nat.le_of_ble_eq_true rfl) (Nat.le_of_ble_eq_true rfl)
theorem dX12_copies_0 : decode cX12_copies 0 = .ok (.iconst 0, 1) := by decide +kernel
theorem dX12_copies_1 : decode cX12_copies 1 = .ok (.istore_n 2, 1) := by decide +kernel
theorem dX12_copies_2 : decode cX12_copies 2 = .ok (.iload_n 2, 1) := by decide +kernel
theorem dX12_copies_3 : decode cX12_copies 3 = .ok (.aload_n 0, 1) := by decide +kernel
theorem dX12_copies_4 : decode cX12_copies 4 = .ok (.arraylength, 1) := by decide +kernel
theorem dX12_copies_5 : decode cX12_copies 5 = .ok (.if_icmp .ge 15, 3) := by decide +kernel
theorem dX12_copies_8 : decode cX12_copies 8 = .ok (.aload_n 1, 1) := by decide +kernel
theorem dX12_copies_9 : decode cX12_copies 9 = .ok (.iload_n 2, 1) := by decide +kernel
theorem dX12_copies_10 : decode cX12_copies 10 = .ok (.aload_n 0, 1) := by decide +kernel
theorem dX12_copies_11 : decode cX12_copies 11 = .ok (.iload_n 2, 1) := by decide +kernel
theorem dX12_copies_12 : decode cX12_copies 12 = .ok (.iaload, 1) := by decide +kernel
theorem dX12_copies_13 : decode cX12_copies 13 = .ok (.iastore, 1) := by decide +kernel
theorem dX12_copies_14 : decode cX12_copies 14 = .ok (.iinc 2 1, 3) := by decide +kernel
theorem dX12_copies_17 : decode cX12_copies 17 = .ok (.goto (-15), 3) := by decide +kernel
theorem dX12_copies_20 : decode cX12_copies 20 = .ok (.return_, 1) := by decide +kernel
def F_X12_copies_2 (G : GG) (v0 : Nat) (v1 : Nat) (self_2 : Int32 → AH → Option (AH)) (v2 : Int32) (h : AH) : Option (AH) :=
ob (alb h v0 .int) fun n1 =>
if (nI n1) ≤ v2 then (some h) else
ck (ixb h v0 .int v2 = true) <|
ck (ixb h v1 .int v2 = true) <|
nn (m_si h v1 v2.toNatClampNeg (m_i h v0 v2.toNatClampNeg)) fun h7 =>
nn (v2 + (1 : Int32)) fun x8 =>
self_2 x8 h7
def f_X12_copies (G : GG) (v0 : Nat) (v1 : Nat) (h : AH) : Option (AH) :=
lq1 (F_X12_copies_2 G v0 v1 ) bN (0 : Int32) h
set_option maxHeartbeats 4000000 in
set_option maxRecDepth 100000 in
theorem el_X12_copies_2 {G : GG} {p : Program} {l : Launch} {e : Env} {s : State} {m : MethodId} {args : Array Value} {below : List Frame} {meth : Method} {c : Code} {y : AH} (C : Cx G cX12_copies RX12 p s m args meth c) (hm : c.maxLocals = 3) (hr : meth.sig.returnType = none) (hin : meth.name = yX12_copies.name) {v0 : Nat} {v1 : Nat}  :
    ∀ (n : Nat) (v2 : Int32) (h : AH), lq1 (F_X12_copies_2 G v0 v1) n v2 h = some y → EE G p l e ({ frames := 0, cells := 0, slots := 0, locals := 0 } : Room) s m args below meth c (none, y) 0 0 2 [(0, .ref v0), (1, .ref v1), (2, .int v2)] [] h 0 0 := by
  intro n
  induction n with
  | zero => intro v2 h hf; exact (no_e hf).elim
  | succ n ih_2 =>
    intro v2 h hf
    have hf : F_X12_copies_2 G v0 v1 (lq1 (F_X12_copies_2 G v0 v1) n) v2 h = some y := hf
    generalize lq1 (F_X12_copies_2 G v0 v1) n = self_2 at hf ih_2
    unfold F_X12_copies_2 at hf
    refine e_iload_n (pc := 2) C dX12_copies_2 2 rfl rfl ?_
    refine e_aload_n (pc := 3) C dX12_copies_3 0 rfl rfl ?_
    obtain ⟨n1, en1, hf⟩ := ob_e hf
    refine e_alen (pc := 4) 0 rfl C dX12_copies_4 (al_e en1) ?_
    rcases it_e hf with ⟨c2, hf⟩ | ⟨c2, hf⟩
    · refine e_icmp_ge (pc := 5) (tgt := 20) C dX12_copies_5 (by decide) (fun _ => ?_) (fun q => absurd c2 q)
      obtain rfl := so_e hf
      exact e_vret (pc := 20) C hr dX12_copies_20 (Nat.le_of_ble_eq_true rfl) (Nat.le_of_ble_eq_true rfl)
    · refine e_icmp_ge (pc := 5) (tgt := 20) C dX12_copies_5 (by decide) (fun q => absurd q c2) (fun _ => ?_)
      refine e_aload_n (pc := 8) C dX12_copies_8 1 rfl rfl ?_
      refine e_iload_n (pc := 9) C dX12_copies_9 2 rfl rfl ?_
      refine e_aload_n (pc := 10) C dX12_copies_10 0 rfl rfl ?_
      refine e_iload_n (pc := 11) C dX12_copies_11 2 rfl rfl ?_
      obtain ⟨q3, hf⟩ := ck_e hf
      obtain ⟨n4, tn4, in4⟩ := ix_e q3
      refine e_iald (pc := 12) C dX12_copies_12 tn4 in4 ?_
      obtain ⟨q5, hf⟩ := ck_e hf
      obtain ⟨n6, tn6, in6⟩ := ix_e q5
      refine e_iast (pc := 13) C dX12_copies_13 tn6 in6 ?_
      obtain ⟨h7, eh7, hf⟩ := nn_e hf
      refine e_hp eh7 ?_
      have uh7 : m_t h7 = m_t h := by rw [eh7]; exact rfl
      obtain ⟨x8, ex8, hf⟩ := nn_e hf
      refine e_iinc (pc := 14) (v := x8) (lv2 := [(2, .int x8), (0, .ref v0), (1, .ref v1)]) C hm dX12_copies_14 2 rfl (by rw [ex8]; rfl) (by decide) rfl ?_
      refine e_goto (pc := 17) (tgt := 2) C dX12_copies_17 (by decide) ?_
      refine e_lv (lv2 := [(0, .ref v0), (1, .ref v1), (2, .int x8)]) [1, 2, 0] rfl ?_
      exact ih_2 x8 h7 hf
set_option maxHeartbeats 4000000 in
set_option maxRecDepth 100000 in
theorem ct_X12_copies {G : GG} {l : Launch} {v0 : Nat} {v1 : Nat} {h : AH} {y : AH} (hf : f_X12_copies G v0 v1 h = some y) : Ct G l yX12_copies cX12_copies 3 none 0 0 0 0 [.ref v0, .ref v1] h (none, y) := by
  refine ct_of (by decide) (Nat.le_of_ble_eq_true rfl) ?_
  intro p e s m args below meth c C hm hr hin
  have C : Cx G cX12_copies RX12 p s m args meth c := C
  refine e_lv (lv2 := [(0, .ref v0), (1, .ref v1)]) [0, 1] rfl ?_
  unfold f_X12_copies at hf
  refine e_iconst (v := (0 : Int32)) (pc := 0) C dX12_copies_0 (by decide) ?_
  refine e_istore_n (pc := 1) (lv2 := [(2, .int (0 : Int32)), (0, .ref v0), (1, .ref v1)]) C hm dX12_copies_1 rfl (by decide) rfl ?_
  refine e_lv (lv2 := [(0, .ref v0), (1, .ref v1), (2, .int (0 : Int32))]) [1, 2, 0] rfl ?_
  exact el_X12_copies_2 C hm hr hin bN (0 : Int32) h hf
theorem dX12_goesOn_0 : decode cX12_goesOn 0 = .ok (.aload_n 0, 1) := by decide +kernel
theorem dX12_goesOn_1 : decode cX12_goesOn 1 = .ok (.invokevirtual 266, 3) := by decide +kernel
theorem dX12_goesOn_4 : decode cX12_goesOn 4 = .ok (.aload_n 0, 1) := by decide +kernel
theorem dX12_goesOn_5 : decode cX12_goesOn 5 = .ok (.getfield 243, 3) := by decide +kernel
theorem dX12_goesOn_8 : decode cX12_goesOn 8 = .ok (.ifCond .ne 32, 3) := by decide +kernel
theorem dX12_goesOn_11 : decode cX12_goesOn 11 = .ok (.aload_n 0, 1) := by decide +kernel
theorem dX12_goesOn_12 : decode cX12_goesOn 12 = .ok (.getfield 246, 3) := by decide +kernel
theorem dX12_goesOn_15 : decode cX12_goesOn 15 = .ok (.aload_n 0, 1) := by decide +kernel
theorem dX12_goesOn_16 : decode cX12_goesOn 16 = .ok (.getfield 210, 3) := by decide +kernel
theorem dX12_goesOn_19 : decode cX12_goesOn 19 = .ok (.if_icmp .ge 21, 3) := by decide +kernel
theorem dX12_goesOn_22 : decode cX12_goesOn 22 = .ok (.aload_n 0, 1) := by decide +kernel
theorem dX12_goesOn_23 : decode cX12_goesOn 23 = .ok (.invokevirtual 249, 3) := by decide +kernel
theorem dX12_goesOn_26 : decode cX12_goesOn 26 = .ok (.bipush 59, 2) := by decide +kernel
theorem dX12_goesOn_28 : decode cX12_goesOn 28 = .ok (.if_icmp .eq 12, 3) := by decide +kernel
theorem dX12_goesOn_31 : decode cX12_goesOn 31 = .ok (.aload_n 0, 1) := by decide +kernel
theorem dX12_goesOn_32 : decode cX12_goesOn 32 = .ok (.iconst 0, 1) := by decide +kernel
theorem dX12_goesOn_33 : decode cX12_goesOn 33 = .ok (.aload_n 0, 1) := by decide +kernel
theorem dX12_goesOn_34 : decode cX12_goesOn 34 = .ok (.getfield 246, 3) := by decide +kernel
theorem dX12_goesOn_37 : decode cX12_goesOn 37 = .ok (.invokevirtual 282, 3) := by decide +kernel
theorem dX12_goesOn_40 : decode cX12_goesOn 40 = .ok (.aload_n 0, 1) := by decide +kernel
theorem dX12_goesOn_41 : decode cX12_goesOn 41 = .ok (.getfield 243, 3) := by decide +kernel
theorem dX12_goesOn_44 : decode cX12_goesOn 44 = .ok (.ifCond .ne 18, 3) := by decide +kernel
theorem dX12_goesOn_47 : decode cX12_goesOn 47 = .ok (.aload_n 0, 1) := by decide +kernel
theorem dX12_goesOn_48 : decode cX12_goesOn 48 = .ok (.getfield 246, 3) := by decide +kernel
theorem dX12_goesOn_51 : decode cX12_goesOn 51 = .ok (.aload_n 0, 1) := by decide +kernel
theorem dX12_goesOn_52 : decode cX12_goesOn 52 = .ok (.getfield 210, 3) := by decide +kernel
theorem dX12_goesOn_55 : decode cX12_goesOn 55 = .ok (.if_icmp .ge 7, 3) := by decide +kernel
theorem dX12_goesOn_58 : decode cX12_goesOn 58 = .ok (.iconst 1, 1) := by decide +kernel
theorem dX12_goesOn_59 : decode cX12_goesOn 59 = .ok (.goto 4, 3) := by decide +kernel
theorem dX12_goesOn_62 : decode cX12_goesOn 62 = .ok (.iconst 0, 1) := by decide +kernel
theorem dX12_goesOn_63 : decode cX12_goesOn 63 = .ok (.istore_n 1, 1) := by decide +kernel
theorem dX12_goesOn_64 : decode cX12_goesOn 64 = .ok (.aload_n 0, 1) := by decide +kernel
theorem dX12_goesOn_65 : decode cX12_goesOn 65 = .ok (.dup, 1) := by decide +kernel
theorem dX12_goesOn_66 : decode cX12_goesOn 66 = .ok (.getfield 246, 3) := by decide +kernel
theorem dX12_goesOn_69 : decode cX12_goesOn 69 = .ok (.iconst 1, 1) := by decide +kernel
theorem dX12_goesOn_70 : decode cX12_goesOn 70 = .ok (.iadd, 1) := by decide +kernel
theorem dX12_goesOn_71 : decode cX12_goesOn 71 = .ok (.putfield 246, 3) := by decide +kernel
theorem dX12_goesOn_74 : decode cX12_goesOn 74 = .ok (.iload_n 1, 1) := by decide +kernel
theorem dX12_goesOn_75 : decode cX12_goesOn 75 = .ok (.ireturn, 1) := by decide +kernel
def f_X12_goesOn (G : GG) (v0 : Nat) (h : AH) : Option (Int32 × AH) :=
ck (m_t h v0 = .inl 12) <|
ob (f_X12_blanks G v0 h) fun h2 =>
ck (m_t h2 v0 = .inl 12) <|
nn (fun (h_40 : AH) => (ck (m_t h_40 v0 = .inl 12) <|
nn (fun (s0_63 : Int32) => (nn (m_si h_40 v0 33 ((m_i h_40 v0 33) + (1 : Int32))) fun h6 =>
ck (s0_63 &&& 1 = s0_63) <|
some (s0_63, h6))) fun j_63 =>
nn (fun (uu_62 : Unit) => (j_63 (0 : Int32))) fun j_62 =>
if (m_i h_40 v0 34) = 0 then (if (m_i h_40 v0 32) ≤ (m_i h_40 v0 33) then (j_62 ()) else
j_63 (1 : Int32)) else
j_62 ())) fun j_40 =>
if (m_i h2 v0 34) = 0 then (if (m_i h2 v0 32) ≤ (m_i h2 v0 33) then (j_40 h2) else
cb (f_X12_sign G v0 h2) fun r14 h12 =>
if r14 = (59 : Int32) then (j_40 h12) else
ck (m_t h12 v0 = .inl 12) <|
ob (f_X12_fails G v0 (0 : Int32) (m_i h12 v0 33) h12) fun h17 =>
j_40 h17) else
j_40 h2
set_option maxHeartbeats 4000000 in
set_option maxRecDepth 100000 in
theorem ct_X12_goesOn {G : GG} {l : Launch} {v0 : Nat} {h : AH} {y : Int32 × AH} (hf : f_X12_goesOn G v0 h = some y) : Ct G l yX12_goesOn cX12_goesOn 2 (some .boolean) 2 40 0 0 [.ref v0] h (some (.int y.1), y.2) := by
  refine ct_of (by decide) (Nat.le_of_ble_eq_true rfl) ?_
  intro p e s m args below meth c C hm hr hin
  have C : Cx G cX12_goesOn RX12 p s m args meth c := C
  refine e_lv (lv2 := [(0, .ref v0)]) [0] rfl ?_
  unfold f_X12_goesOn at hf
  refine e_aload_n (pc := 0) C dX12_goesOn_0 0 rfl rfl ?_
  obtain ⟨t1, hf⟩ := ck_e hf
  obtain ⟨h2, y3, hf⟩ := ob_e hf
  refine e_callVv (pc := 1) (st := []) 12 C (ct_X12_blanks y3) dX12_goesOn_1 (by decide) t1 g1686 g1688 g59 g157 g1689 hd_X12_blanks rfl ⟨Nat.le_of_ble_eq_true rfl, Nat.le_of_ble_eq_true rfl⟩ ⟨Nat.le_of_ble_eq_true rfl, Nat.le_of_ble_eq_true rfl⟩ rfl (Nat.le_of_ble_eq_true rfl) ?_
  refine e_aload_n (pc := 4) C dX12_goesOn_4 0 rfl rfl ?_
  obtain ⟨t4, hf⟩ := ck_e hf
  refine e_geti (pc := 5) 12 34 C dX12_goesOn_5 (by decide) (by decide) g1435 rfl t4 ?_
  obtain ⟨j_40, ej_40, hf⟩ := nn_e hf
  have W_40 : ∀ (h_40 : AH), j_40 h_40 = some y → EE G p l e ({ frames := 2, cells := 0, slots := 0, locals := 40 } : Room) s m args below meth c (some (.int y.1), y.2) 0 0 40 [(0, .ref v0)] [] h_40 0 0 := by
    intro h_40 hf
    rw [ej_40] at hf
    refine e_aload_n (pc := 40) C dX12_goesOn_40 0 rfl rfl ?_
    obtain ⟨t5, hf⟩ := ck_e hf
    refine e_geti (pc := 41) 12 34 C dX12_goesOn_41 (by decide) (by decide) g1435 rfl t5 ?_
    obtain ⟨j_63, ej_63, hf⟩ := nn_e hf
    have W_63 : ∀ (s0_63 : Int32), j_63 s0_63 = some y → EE G p l e ({ frames := 2, cells := 0, slots := 0, locals := 40 } : Room) s m args below meth c (some (.int y.1), y.2) 0 0 63 [(0, .ref v0)] [.int s0_63] h_40 0 0 := by
      intro s0_63 hf
      rw [ej_63] at hf
      refine e_istore_n (pc := 63) (lv2 := [(1, .int s0_63), (0, .ref v0)]) C hm dX12_goesOn_63 rfl (by decide) rfl ?_
      refine e_aload_n (pc := 64) C dX12_goesOn_64 1 rfl rfl ?_
      refine e_dup (pc := 65) C dX12_goesOn_65 rfl ?_
      refine e_geti (pc := 66) 12 33 C dX12_goesOn_66 (by decide) (by decide) g1434 rfl t5 ?_
      refine e_iconst (v := (1 : Int32)) (pc := 69) C dX12_goesOn_69 (by decide) ?_
      refine e_iadd (pc := 70) C dX12_goesOn_70 ?_
      refine e_puti (pc := 71) 12 33 C dX12_goesOn_71 (by decide) (by decide) g1434 rfl rfl rfl rfl t5 ?_
      obtain ⟨h6, eh6, hf⟩ := nn_e hf
      refine e_hp eh6 ?_
      have uh6 : m_t h6 = m_t h_40 := by rw [eh6]; exact rfl
      refine e_iload_n (pc := 74) C dX12_goesOn_74 0 rfl rfl ?_
      obtain ⟨q7, hf⟩ := ck_e hf
      obtain rfl := so_e hf
      exact e_zret (pc := 75) (v := s0_63) C hr (nz_ok q7) dX12_goesOn_75 (Nat.le_of_ble_eq_true rfl) (Nat.le_of_ble_eq_true rfl)
    obtain ⟨j_62, ej_62, hf⟩ := nn_e hf
    have W_62 : ∀ (uu_62 : Unit), j_62 uu_62 = some y → EE G p l e ({ frames := 2, cells := 0, slots := 0, locals := 40 } : Room) s m args below meth c (some (.int y.1), y.2) 0 0 62 [(0, .ref v0)] [] h_40 0 0 := by
      intro uu_62 hf
      rw [ej_62] at hf
      refine e_iconst (v := (0 : Int32)) (pc := 62) C dX12_goesOn_62 (by decide) ?_
      exact W_63 (0 : Int32) hf
    rcases it_e hf with ⟨c8, hf⟩ | ⟨c8, hf⟩
    · refine e_if_ne (pc := 44) (tgt := 62) C dX12_goesOn_44 (by decide) (fun q => absurd c8 q) (fun _ => ?_)
      refine e_aload_n (pc := 47) C dX12_goesOn_47 0 rfl rfl ?_
      refine e_geti (pc := 48) 12 33 C dX12_goesOn_48 (by decide) (by decide) g1434 rfl t5 ?_
      refine e_aload_n (pc := 51) C dX12_goesOn_51 0 rfl rfl ?_
      refine e_geti (pc := 52) 12 32 C dX12_goesOn_52 (by decide) (by decide) g1433 rfl t5 ?_
      rcases it_e hf with ⟨c9, hf⟩ | ⟨c9, hf⟩
      · refine e_icmp_ge (pc := 55) (tgt := 62) C dX12_goesOn_55 (by decide) (fun _ => ?_) (fun q => absurd c9 q)
        exact W_62 () hf
      · refine e_icmp_ge (pc := 55) (tgt := 62) C dX12_goesOn_55 (by decide) (fun q => absurd q c9) (fun _ => ?_)
        refine e_iconst (v := (1 : Int32)) (pc := 58) C dX12_goesOn_58 (by decide) ?_
        refine e_goto (pc := 59) (tgt := 63) C dX12_goesOn_59 (by decide) ?_
        exact W_63 (1 : Int32) hf
    · refine e_if_ne (pc := 44) (tgt := 62) C dX12_goesOn_44 (by decide) (fun _ => ?_) (fun q => absurd q c8)
      exact W_62 () hf
  rcases it_e hf with ⟨c10, hf⟩ | ⟨c10, hf⟩
  · refine e_if_ne (pc := 8) (tgt := 40) C dX12_goesOn_8 (by decide) (fun q => absurd c10 q) (fun _ => ?_)
    refine e_aload_n (pc := 11) C dX12_goesOn_11 0 rfl rfl ?_
    refine e_geti (pc := 12) 12 33 C dX12_goesOn_12 (by decide) (by decide) g1434 rfl t4 ?_
    refine e_aload_n (pc := 15) C dX12_goesOn_15 0 rfl rfl ?_
    refine e_geti (pc := 16) 12 32 C dX12_goesOn_16 (by decide) (by decide) g1433 rfl t4 ?_
    rcases it_e hf with ⟨c11, hf⟩ | ⟨c11, hf⟩
    · refine e_icmp_ge (pc := 19) (tgt := 40) C dX12_goesOn_19 (by decide) (fun _ => ?_) (fun q => absurd c11 q)
      exact W_40 h2 hf
    · refine e_icmp_ge (pc := 19) (tgt := 40) C dX12_goesOn_19 (by decide) (fun q => absurd q c11) (fun _ => ?_)
      refine e_aload_n (pc := 22) C dX12_goesOn_22 0 rfl rfl ?_
      obtain ⟨r14, h12, y13, hf⟩ := cb_e hf
      refine e_callVi (pc := 23) (st := []) 12 C (ct_X12_sign y13) dX12_goesOn_23 (by decide) t4 g1690 g1692 g60 g157 g1693 hd_X12_sign rfl ⟨Nat.le_of_ble_eq_true rfl, Nat.le_of_ble_eq_true rfl⟩ ⟨Nat.le_of_ble_eq_true rfl, Nat.le_of_ble_eq_true rfl⟩ rfl (Nat.le_of_ble_eq_true rfl) ?_
      refine e_bipush (v := (59 : Int32)) (pc := 26) C dX12_goesOn_26 (by decide) ?_
      rcases it_e hf with ⟨c15, hf⟩ | ⟨c15, hf⟩
      · refine e_icmp_eq (pc := 28) (tgt := 40) C dX12_goesOn_28 (by decide) (fun _ => ?_) (fun q => absurd c15 q)
        exact W_40 h12 hf
      · refine e_icmp_eq (pc := 28) (tgt := 40) C dX12_goesOn_28 (by decide) (fun q => absurd q c15) (fun _ => ?_)
        refine e_aload_n (pc := 31) C dX12_goesOn_31 0 rfl rfl ?_
        refine e_iconst (v := (0 : Int32)) (pc := 32) C dX12_goesOn_32 (by decide) ?_
        refine e_aload_n (pc := 33) C dX12_goesOn_33 0 rfl rfl ?_
        obtain ⟨t16, hf⟩ := ck_e hf
        refine e_geti (pc := 34) 12 33 C dX12_goesOn_34 (by decide) (by decide) g1434 rfl t16 ?_
        obtain ⟨h17, y18, hf⟩ := ob_e hf
        refine e_callVv (pc := 37) (st := []) 12 C (ct_X12_fails y18) dX12_goesOn_37 (by decide) t16 g1710 g1712 g62 g157 g1713 hd_X12_fails rfl ⟨Nat.le_of_ble_eq_true rfl, Nat.le_of_ble_eq_true rfl⟩ ⟨Nat.le_of_ble_eq_true rfl, Nat.le_of_ble_eq_true rfl⟩ rfl (Nat.le_of_ble_eq_true rfl) ?_
        exact W_40 h17 hf
  · refine e_if_ne (pc := 8) (tgt := 40) C dX12_goesOn_8 (by decide) (fun _ => ?_) (fun q => absurd q c10)
    exact W_40 h2 hf
theorem dX12_starts_0 : decode cX12_starts 0 = .ok (.aload_n 0, 1) := by decide +kernel
theorem dX12_starts_1 : decode cX12_starts 1 = .ok (.iconst 0, 1) := by decide +kernel
theorem dX12_starts_2 : decode cX12_starts 2 = .ok (.putfield 246, 3) := by decide +kernel
theorem dX12_starts_5 : decode cX12_starts 5 = .ok (.aload_n 0, 1) := by decide +kernel
theorem dX12_starts_6 : decode cX12_starts 6 = .ok (.iconst 0, 1) := by decide +kernel
theorem dX12_starts_7 : decode cX12_starts 7 = .ok (.putfield 243, 3) := by decide +kernel
theorem dX12_starts_10 : decode cX12_starts 10 = .ok (.aload_n 0, 1) := by decide +kernel
theorem dX12_starts_11 : decode cX12_starts 11 = .ok (.iconst 0, 1) := by decide +kernel
theorem dX12_starts_12 : decode cX12_starts 12 = .ok (.putfield 276, 3) := by decide +kernel
theorem dX12_starts_15 : decode cX12_starts 15 = .ok (.aload_n 0, 1) := by decide +kernel
theorem dX12_starts_16 : decode cX12_starts 16 = .ok (.iconst 0, 1) := by decide +kernel
theorem dX12_starts_17 : decode cX12_starts 17 = .ok (.putfield 317, 3) := by decide +kernel
theorem dX12_starts_20 : decode cX12_starts 20 = .ok (.aload_n 0, 1) := by decide +kernel
theorem dX12_starts_21 : decode cX12_starts 21 = .ok (.iconst 0, 1) := by decide +kernel
theorem dX12_starts_22 : decode cX12_starts 22 = .ok (.putfield 279, 3) := by decide +kernel
theorem dX12_starts_25 : decode cX12_starts 25 = .ok (.return_, 1) := by decide +kernel
def f_X12_starts (G : GG) (v0 : Nat) (h : AH) : Option (AH) :=
ck (m_t h v0 = .inl 12) <|
nn (m_si h v0 33 (0 : Int32)) fun h2 =>
nn (m_si h2 v0 34 (0 : Int32)) fun h3 =>
nn (m_si h3 v0 37 (0 : Int32)) fun h4 =>
nn (m_si h4 v0 38 (0 : Int32)) fun h5 =>
nn (m_si h5 v0 39 (0 : Int32)) fun h6 =>
some h6
set_option maxHeartbeats 4000000 in
set_option maxRecDepth 100000 in
theorem ct_X12_starts {G : GG} {l : Launch} {v0 : Nat} {h : AH} {y : AH} (hf : f_X12_starts G v0 h = some y) : Ct G l yX12_starts cX12_starts 1 none 0 0 0 0 [.ref v0] h (none, y) := by
  refine ct_of (by decide) (Nat.le_of_ble_eq_true rfl) ?_
  intro p e s m args below meth c C hm hr hin
  have C : Cx G cX12_starts RX12 p s m args meth c := C
  refine e_lv (lv2 := [(0, .ref v0)]) [0] rfl ?_
  unfold f_X12_starts at hf
  refine e_aload_n (pc := 0) C dX12_starts_0 0 rfl rfl ?_
  refine e_iconst (v := (0 : Int32)) (pc := 1) C dX12_starts_1 (by decide) ?_
  obtain ⟨t1, hf⟩ := ck_e hf
  refine e_puti (pc := 2) 12 33 C dX12_starts_2 (by decide) (by decide) g1434 rfl rfl rfl rfl t1 ?_
  obtain ⟨h2, eh2, hf⟩ := nn_e hf
  refine e_hp eh2 ?_
  have uh2 : m_t h2 = m_t h := by rw [eh2]; exact rfl
  refine e_aload_n (pc := 5) C dX12_starts_5 0 rfl rfl ?_
  refine e_iconst (v := (0 : Int32)) (pc := 6) C dX12_starts_6 (by decide) ?_
  refine e_puti (pc := 7) 12 34 C dX12_starts_7 (by decide) (by decide) g1435 rfl rfl rfl rfl (e_mt uh2 t1) ?_
  obtain ⟨h3, eh3, hf⟩ := nn_e hf
  refine e_hp eh3 ?_
  have uh3 : m_t h3 = m_t h := by rw [eh3]; exact uh2
  refine e_aload_n (pc := 10) C dX12_starts_10 0 rfl rfl ?_
  refine e_iconst (v := (0 : Int32)) (pc := 11) C dX12_starts_11 (by decide) ?_
  refine e_puti (pc := 12) 12 37 C dX12_starts_12 (by decide) (by decide) g1438 rfl rfl rfl rfl (e_mt uh3 t1) ?_
  obtain ⟨h4, eh4, hf⟩ := nn_e hf
  refine e_hp eh4 ?_
  have uh4 : m_t h4 = m_t h := by rw [eh4]; exact uh3
  refine e_aload_n (pc := 15) C dX12_starts_15 0 rfl rfl ?_
  refine e_iconst (v := (0 : Int32)) (pc := 16) C dX12_starts_16 (by decide) ?_
  refine e_puti (pc := 17) 12 38 C dX12_starts_17 (by decide) (by decide) g1439 rfl rfl rfl rfl (e_mt uh4 t1) ?_
  obtain ⟨h5, eh5, hf⟩ := nn_e hf
  refine e_hp eh5 ?_
  have uh5 : m_t h5 = m_t h := by rw [eh5]; exact uh4
  refine e_aload_n (pc := 20) C dX12_starts_20 0 rfl rfl ?_
  refine e_iconst (v := (0 : Int32)) (pc := 21) C dX12_starts_21 (by decide) ?_
  refine e_puti (pc := 22) 12 39 C dX12_starts_22 (by decide) (by decide) g1440 rfl rfl rfl rfl (e_mt uh5 t1) ?_
  obtain ⟨h6, eh6, hf⟩ := nn_e hf
  refine e_hp eh6 ?_
  have uh6 : m_t h6 = m_t h := by rw [eh6]; exact uh5
  obtain rfl := so_e hf
  exact e_vret (pc := 25) C hr dX12_starts_25 (Nat.le_of_ble_eq_true rfl) (Nat.le_of_ble_eq_true rfl)
theorem dX12_readsAll_0 : decode cX12_readsAll 0 = .ok (.aload_n 0, 1) := by decide +kernel
theorem dX12_readsAll_1 : decode cX12_readsAll 1 = .ok (.invokevirtual 374, 3) := by decide +kernel
theorem dX12_readsAll_4 : decode cX12_readsAll 4 = .ok (.iconst 0, 1) := by decide +kernel
theorem dX12_readsAll_5 : decode cX12_readsAll 5 = .ok (.istore_n 1, 1) := by decide +kernel
theorem dX12_readsAll_6 : decode cX12_readsAll 6 = .ok (.iload_n 1, 1) := by decide +kernel
theorem dX12_readsAll_7 : decode cX12_readsAll 7 = .ok (.bipush 10, 2) := by decide +kernel
theorem dX12_readsAll_9 : decode cX12_readsAll 9 = .ok (.if_icmp .ge 16, 3) := by decide +kernel
theorem dX12_readsAll_12 : decode cX12_readsAll 12 = .ok (.aload_n 0, 1) := by decide +kernel
theorem dX12_readsAll_13 : decode cX12_readsAll 13 = .ok (.getfield 67, 3) := by decide +kernel
theorem dX12_readsAll_16 : decode cX12_readsAll 16 = .ok (.iload_n 1, 1) := by decide +kernel
theorem dX12_readsAll_17 : decode cX12_readsAll 17 = .ok (.iconst 0, 1) := by decide +kernel
theorem dX12_readsAll_18 : decode cX12_readsAll 18 = .ok (.iastore, 1) := by decide +kernel
theorem dX12_readsAll_19 : decode cX12_readsAll 19 = .ok (.iinc 1 1, 3) := by decide +kernel
theorem dX12_readsAll_22 : decode cX12_readsAll 22 = .ok (.goto (-16), 3) := by decide +kernel
theorem dX12_readsAll_25 : decode cX12_readsAll 25 = .ok (.iconst 0, 1) := by decide +kernel
theorem dX12_readsAll_26 : decode cX12_readsAll 26 = .ok (.istore_n 1, 1) := by decide +kernel
theorem dX12_readsAll_27 : decode cX12_readsAll 27 = .ok (.iconst 1, 1) := by decide +kernel
theorem dX12_readsAll_28 : decode cX12_readsAll 28 = .ok (.istore_n 2, 1) := by decide +kernel
theorem dX12_readsAll_29 : decode cX12_readsAll 29 = .ok (.iload_n 2, 1) := by decide +kernel
theorem dX12_readsAll_30 : decode cX12_readsAll 30 = .ok (.ifCond .eq 19, 3) := by decide +kernel
theorem dX12_readsAll_33 : decode cX12_readsAll 33 = .ok (.aload_n 0, 1) := by decide +kernel
theorem dX12_readsAll_34 : decode cX12_readsAll 34 = .ok (.iload_n 1, 1) := by decide +kernel
theorem dX12_readsAll_35 : decode cX12_readsAll 35 = .ok (.invokevirtual 377, 3) := by decide +kernel
theorem dX12_readsAll_38 : decode cX12_readsAll 38 = .ok (.iinc 1 1, 3) := by decide +kernel
theorem dX12_readsAll_41 : decode cX12_readsAll 41 = .ok (.aload_n 0, 1) := by decide +kernel
theorem dX12_readsAll_42 : decode cX12_readsAll 42 = .ok (.invokevirtual 380, 3) := by decide +kernel
theorem dX12_readsAll_45 : decode cX12_readsAll 45 = .ok (.istore_n 2, 1) := by decide +kernel
theorem dX12_readsAll_46 : decode cX12_readsAll 46 = .ok (.goto (-17), 3) := by decide +kernel
theorem dX12_readsAll_49 : decode cX12_readsAll 49 = .ok (.aload_n 0, 1) := by decide +kernel
theorem dX12_readsAll_50 : decode cX12_readsAll 50 = .ok (.iconst 0, 1) := by decide +kernel
theorem dX12_readsAll_51 : decode cX12_readsAll 51 = .ok (.putfield 210, 3) := by decide +kernel
theorem dX12_readsAll_54 : decode cX12_readsAll 54 = .ok (.return_, 1) := by decide +kernel
def F_X12_readsAll_6 (G : GG) (v0 : Nat) (K_25 : AH → Option (AH)) (self_6 : Int32 → AH → Option (AH)) (v1 : Int32) (h : AH) : Option (AH) :=
if (10 : Int32) ≤ v1 then (K_25 h) else
ck (m_t h v0 = .inl 12) <|
ob (m_r h v0 20) fun b6 =>
ck (ixb h b6 .int v1 = true) <|
nn (m_si h b6 v1.toNatClampNeg (0 : Int32)) fun h9 =>
nn (v1 + (1 : Int32)) fun x10 =>
self_6 x10 h9
def F_X12_readsAll_29 (G : GG) (v0 : Nat) (self_29 : Int32 → Int32 → AH → Option (AH)) (v1 : Int32) (v2 : Int32) (h : AH) : Option (AH) :=
if v2 = 0 then (ck (m_t h v0 = .inl 12) <|
nn (m_si h v0 32 (0 : Int32)) fun h13 =>
some h13) else
ck (m_t h v0 = .inl 12) <|
ob (f_X12_trainClause G v0 v1 h) fun h15 =>
nn (v1 + (1 : Int32)) fun x17 =>
ck (m_t h15 v0 = .inl 12) <|
cb (f_X12_goesOn G v0 h15) fun r21 h19 =>
self_29 x17 r21 h19
def f_X12_readsAll (G : GG) (v0 : Nat) (h : AH) : Option (AH) :=
ck (m_t h v0 = .inl 12) <|
ob (f_X12_starts G v0 h) fun h2 =>
lq1 (F_X12_readsAll_6 G v0 (fun (h_25 : AH) => (lq2 (F_X12_readsAll_29 G v0 ) bN (0 : Int32) (1 : Int32) h_25))) bN (0 : Int32) h2
set_option maxHeartbeats 4000000 in
set_option maxRecDepth 100000 in
theorem el_X12_readsAll_6 {G : GG} {p : Program} {l : Launch} {e : Env} {s : State} {m : MethodId} {args : Array Value} {below : List Frame} {meth : Method} {c : Code} {y : AH} (C : Cx G cX12_readsAll RX12 p s m args meth c) (hm : c.maxLocals = 3) (hr : meth.sig.returnType = none) (hin : meth.name = yX12_readsAll.name) {v0 : Nat} {K_25 : AH → Option (AH)} (hK_25 : ∀ (h : AH), K_25 h = some y → EE G p l e ({ frames := 7, cells := 0, slots := 0, locals := 159 } : Room) s m args below meth c (none, y) 0 0 25 [(0, .ref v0)] [] h 0 0) :
    ∀ (n : Nat) (v1 : Int32) (h : AH), lq1 (F_X12_readsAll_6 G v0 K_25) n v1 h = some y → EE G p l e ({ frames := 7, cells := 0, slots := 0, locals := 159 } : Room) s m args below meth c (none, y) 0 0 6 [(0, .ref v0), (1, .int v1)] [] h 0 0 := by
  intro n
  induction n with
  | zero => intro v1 h hf; exact (no_e hf).elim
  | succ n ih_6 =>
    intro v1 h hf
    have hf : F_X12_readsAll_6 G v0 K_25 (lq1 (F_X12_readsAll_6 G v0 K_25) n) v1 h = some y := hf
    generalize lq1 (F_X12_readsAll_6 G v0 K_25) n = self_6 at hf ih_6
    unfold F_X12_readsAll_6 at hf
    refine e_iload_n (pc := 6) C dX12_readsAll_6 1 rfl rfl ?_
    refine e_bipush (v := (10 : Int32)) (pc := 7) C dX12_readsAll_7 (by decide) ?_
    rcases it_e hf with ⟨c4, hf⟩ | ⟨c4, hf⟩
    · refine e_icmp_ge (pc := 9) (tgt := 25) C dX12_readsAll_9 (by decide) (fun _ => ?_) (fun q => absurd c4 q)
      refine e_lv (lv2 := [(0, .ref v0)]) [0] rfl ?_
      exact hK_25 h hf
    · refine e_icmp_ge (pc := 9) (tgt := 25) C dX12_readsAll_9 (by decide) (fun q => absurd q c4) (fun _ => ?_)
      refine e_aload_n (pc := 12) C dX12_readsAll_12 0 rfl rfl ?_
      obtain ⟨t5, hf⟩ := ck_e hf
      refine e_getr (pc := 13) 12 20 C dX12_readsAll_13 (by decide) (by decide) g1421 rfl t5 ?_
      obtain ⟨b6, eb6, hf⟩ := ob_e hf
      refine e_rf eb6 ?_
      refine e_iload_n (pc := 16) C dX12_readsAll_16 1 rfl rfl ?_
      refine e_iconst (v := (0 : Int32)) (pc := 17) C dX12_readsAll_17 (by decide) ?_
      obtain ⟨q7, hf⟩ := ck_e hf
      obtain ⟨n8, tn8, in8⟩ := ix_e q7
      refine e_iast (pc := 18) C dX12_readsAll_18 tn8 in8 ?_
      obtain ⟨h9, eh9, hf⟩ := nn_e hf
      refine e_hp eh9 ?_
      have uh9 : m_t h9 = m_t h := by rw [eh9]; exact rfl
      obtain ⟨x10, ex10, hf⟩ := nn_e hf
      refine e_iinc (pc := 19) (v := x10) (lv2 := [(1, .int x10), (0, .ref v0)]) C hm dX12_readsAll_19 1 rfl (by rw [ex10]; rfl) (by decide) rfl ?_
      refine e_goto (pc := 22) (tgt := 6) C dX12_readsAll_22 (by decide) ?_
      refine e_lv (lv2 := [(0, .ref v0), (1, .int x10)]) [1, 0] rfl ?_
      exact ih_6 x10 h9 hf
set_option maxHeartbeats 4000000 in
set_option maxRecDepth 100000 in
theorem el_X12_readsAll_29 {G : GG} {p : Program} {l : Launch} {e : Env} {s : State} {m : MethodId} {args : Array Value} {below : List Frame} {meth : Method} {c : Code} {y : AH} (C : Cx G cX12_readsAll RX12 p s m args meth c) (hm : c.maxLocals = 3) (hr : meth.sig.returnType = none) (hin : meth.name = yX12_readsAll.name) {v0 : Nat}  :
    ∀ (n : Nat) (v1 : Int32) (v2 : Int32) (h : AH), lq2 (F_X12_readsAll_29 G v0) n v1 v2 h = some y → EE G p l e ({ frames := 7, cells := 0, slots := 0, locals := 159 } : Room) s m args below meth c (none, y) 0 0 29 [(0, .ref v0), (1, .int v1), (2, .int v2)] [] h 0 0 := by
  intro n
  induction n with
  | zero => intro v1 v2 h hf; exact (no_e hf).elim
  | succ n ih_29 =>
    intro v1 v2 h hf
    have hf : F_X12_readsAll_29 G v0 (lq2 (F_X12_readsAll_29 G v0) n) v1 v2 h = some y := hf
    generalize lq2 (F_X12_readsAll_29 G v0) n = self_29 at hf ih_29
    unfold F_X12_readsAll_29 at hf
    refine e_iload_n (pc := 29) C dX12_readsAll_29 2 rfl rfl ?_
    rcases it_e hf with ⟨c11, hf⟩ | ⟨c11, hf⟩
    · refine e_if_eq (pc := 30) (tgt := 49) C dX12_readsAll_30 (by decide) (fun _ => ?_) (fun q => absurd c11 q)
      refine e_aload_n (pc := 49) C dX12_readsAll_49 0 rfl rfl ?_
      refine e_iconst (v := (0 : Int32)) (pc := 50) C dX12_readsAll_50 (by decide) ?_
      obtain ⟨t12, hf⟩ := ck_e hf
      refine e_puti (pc := 51) 12 32 C dX12_readsAll_51 (by decide) (by decide) g1433 rfl rfl rfl rfl t12 ?_
      obtain ⟨h13, eh13, hf⟩ := nn_e hf
      refine e_hp eh13 ?_
      have uh13 : m_t h13 = m_t h := by rw [eh13]; exact rfl
      obtain rfl := so_e hf
      exact e_vret (pc := 54) C hr dX12_readsAll_54 (Nat.le_of_ble_eq_true rfl) (Nat.le_of_ble_eq_true rfl)
    · refine e_if_eq (pc := 30) (tgt := 49) C dX12_readsAll_30 (by decide) (fun q => absurd q c11) (fun _ => ?_)
      refine e_aload_n (pc := 33) C dX12_readsAll_33 0 rfl rfl ?_
      refine e_iload_n (pc := 34) C dX12_readsAll_34 1 rfl rfl ?_
      obtain ⟨t14, hf⟩ := ck_e hf
      obtain ⟨h15, y16, hf⟩ := ob_e hf
      refine e_callVv (pc := 35) (st := []) 12 C (ct_X12_trainClause y16) dX12_readsAll_35 (by decide) t14 g1682 g1684 g58 g157 g1685 hd_X12_trainClause rfl ⟨Nat.le_of_ble_eq_true rfl, Nat.le_of_ble_eq_true rfl⟩ ⟨Nat.le_of_ble_eq_true rfl, Nat.le_of_ble_eq_true rfl⟩ rfl (Nat.le_of_ble_eq_true rfl) ?_
      obtain ⟨x17, ex17, hf⟩ := nn_e hf
      refine e_iinc (pc := 38) (v := x17) (lv2 := [(1, .int x17), (0, .ref v0), (2, .int v2)]) C hm dX12_readsAll_38 1 rfl (by rw [ex17]; rfl) (by decide) rfl ?_
      refine e_aload_n (pc := 41) C dX12_readsAll_41 1 rfl rfl ?_
      obtain ⟨t18, hf⟩ := ck_e hf
      obtain ⟨r21, h19, y20, hf⟩ := cb_e hf
      refine e_callVi (pc := 42) (st := []) 12 C (ct_X12_goesOn y20) dX12_readsAll_42 (by decide) t18 g1752 g1754 g71 g157 g1755 hd_X12_goesOn rfl ⟨Nat.le_of_ble_eq_true rfl, Nat.le_of_ble_eq_true rfl⟩ ⟨Nat.le_of_ble_eq_true rfl, Nat.le_of_ble_eq_true rfl⟩ rfl (Nat.le_of_ble_eq_true rfl) ?_
      refine e_istore_n (pc := 45) (lv2 := [(2, .int r21), (1, .int x17), (0, .ref v0)]) C hm dX12_readsAll_45 rfl (by decide) rfl ?_
      refine e_goto (pc := 46) (tgt := 29) C dX12_readsAll_46 (by decide) ?_
      refine e_lv (lv2 := [(0, .ref v0), (1, .int x17), (2, .int r21)]) [2, 1, 0] rfl ?_
      exact ih_29 x17 r21 h19 hf
set_option maxHeartbeats 4000000 in
set_option maxRecDepth 100000 in
theorem ct_X12_readsAll {G : GG} {l : Launch} {v0 : Nat} {h : AH} {y : AH} (hf : f_X12_readsAll G v0 h = some y) : Ct G l yX12_readsAll cX12_readsAll 3 none 7 159 0 0 [.ref v0] h (none, y) := by
  refine ct_of (by decide) (Nat.le_of_ble_eq_true rfl) ?_
  intro p e s m args below meth c C hm hr hin
  have C : Cx G cX12_readsAll RX12 p s m args meth c := C
  refine e_lv (lv2 := [(0, .ref v0)]) [0] rfl ?_
  unfold f_X12_readsAll at hf
  refine e_aload_n (pc := 0) C dX12_readsAll_0 0 rfl rfl ?_
  obtain ⟨t1, hf⟩ := ck_e hf
  obtain ⟨h2, y3, hf⟩ := ob_e hf
  refine e_callVv (pc := 1) (st := []) 12 C (ct_X12_starts y3) dX12_readsAll_1 (by decide) t1 g1678 g1680 g57 g157 g1681 hd_X12_starts rfl ⟨Nat.le_of_ble_eq_true rfl, Nat.le_of_ble_eq_true rfl⟩ ⟨Nat.le_of_ble_eq_true rfl, Nat.le_of_ble_eq_true rfl⟩ rfl (Nat.le_of_ble_eq_true rfl) ?_
  refine e_iconst (v := (0 : Int32)) (pc := 4) C dX12_readsAll_4 (by decide) ?_
  refine e_istore_n (pc := 5) (lv2 := [(1, .int (0 : Int32)), (0, .ref v0)]) C hm dX12_readsAll_5 rfl (by decide) rfl ?_
  refine e_lv (lv2 := [(0, .ref v0), (1, .int (0 : Int32))]) [1, 0] rfl ?_
  refine el_X12_readsAll_6 C hm hr hin (fun h_25 hf => ?_) bN (0 : Int32) h2 hf
  refine e_iconst (v := (0 : Int32)) (pc := 25) C dX12_readsAll_25 (by decide) ?_
  refine e_istore_n (pc := 26) (lv2 := [(1, .int (0 : Int32)), (0, .ref v0)]) C hm dX12_readsAll_26 rfl (by decide) rfl ?_
  refine e_iconst (v := (1 : Int32)) (pc := 27) C dX12_readsAll_27 (by decide) ?_
  refine e_istore_n (pc := 28) (lv2 := [(2, .int (1 : Int32)), (1, .int (0 : Int32)), (0, .ref v0)]) C hm dX12_readsAll_28 rfl (by decide) rfl ?_
  refine e_lv (lv2 := [(0, .ref v0), (1, .int (0 : Int32)), (2, .int (1 : Int32))]) [2, 1, 0] rfl ?_
  exact el_X12_readsAll_29 C hm hr hin bN (0 : Int32) (1 : Int32) h_25 hf
theorem dX12_maySit_0 : decode cX12_maySit 0 = .ok (.iload_n 2, 1) := by decide +kernel
theorem dX12_maySit_1 : decode cX12_maySit 1 = .ok (.iconst 4, 1) := by decide +kernel
theorem dX12_maySit_2 : decode cX12_maySit 2 = .ok (.if_icmp .lt 17, 3) := by decide +kernel
theorem dX12_maySit_5 : decode cX12_maySit 5 = .ok (.aload_n 0, 1) := by decide +kernel
theorem dX12_maySit_6 : decode cX12_maySit 6 = .ok (.getfield 9, 3) := by decide +kernel
theorem dX12_maySit_9 : decode cX12_maySit 9 = .ok (.bipush 7, 2) := by decide +kernel
theorem dX12_maySit_11 : decode cX12_maySit 11 = .ok (.iaload, 1) := by decide +kernel
theorem dX12_maySit_12 : decode cX12_maySit 12 = .ok (.iload_n 1, 1) := by decide +kernel
theorem dX12_maySit_13 : decode cX12_maySit 13 = .ok (.invokestatic 461, 3) := by decide +kernel
theorem dX12_maySit_16 : decode cX12_maySit 16 = .ok (.ifCond .ne 7, 3) := by decide +kernel
theorem dX12_maySit_19 : decode cX12_maySit 19 = .ok (.iconst 1, 1) := by decide +kernel
theorem dX12_maySit_20 : decode cX12_maySit 20 = .ok (.goto 4, 3) := by decide +kernel
theorem dX12_maySit_23 : decode cX12_maySit 23 = .ok (.iconst 0, 1) := by decide +kernel
theorem dX12_maySit_24 : decode cX12_maySit 24 = .ok (.ireturn, 1) := by decide +kernel
def f_X12_maySit (G : GG) (v0 : Nat) (v1 : Int32) (v2 : Int32) (h : AH) : Option (Int32 × AH) :=
if v2 < (4 : Int32) then (some ((1 : Int32), h)) else
ck (m_t h v0 = .inl 12) <|
ob (m_r h v0 1) fun b3 =>
ck (ixb h b3 .int (7 : Int32) = true) <|
cb (f_X12_has G (m_i h b3 (7 : Int32).toNatClampNeg) v1 h) fun r8 h6 =>
if r8 = 0 then (some ((1 : Int32), h6)) else
some ((0 : Int32), h6)
set_option maxHeartbeats 4000000 in
set_option maxRecDepth 100000 in
theorem ct_X12_maySit {G : GG} {l : Launch} {v0 : Nat} {v1 : Int32} {v2 : Int32} {h : AH} {y : Int32 × AH} (hf : f_X12_maySit G v0 v1 v2 h = some y) : Ct G l yX12_maySit cX12_maySit 3 (some .boolean) 1 21 0 0 [.ref v0, .int v1, .int v2] h (some (.int y.1), y.2) := by
  refine ct_of (by decide) (Nat.le_of_ble_eq_true rfl) ?_
  intro p e s m args below meth c C hm hr hin
  have C : Cx G cX12_maySit RX12 p s m args meth c := C
  refine e_lv (lv2 := [(0, .ref v0), (1, .int v1), (2, .int v2)]) [0, 1, 2] rfl ?_
  unfold f_X12_maySit at hf
  refine e_iload_n (pc := 0) C dX12_maySit_0 2 rfl rfl ?_
  refine e_iconst (v := (4 : Int32)) (pc := 1) C dX12_maySit_1 (by decide) ?_
  rcases it_e hf with ⟨c1, hf⟩ | ⟨c1, hf⟩
  · refine e_icmp_lt (pc := 2) (tgt := 19) C dX12_maySit_2 (by decide) (fun _ => ?_) (fun q => absurd c1 q)
    refine e_iconst (v := (1 : Int32)) (pc := 19) C dX12_maySit_19 (by decide) ?_
    refine e_goto (pc := 20) (tgt := 24) C dX12_maySit_20 (by decide) ?_
    obtain rfl := so_e hf
    exact e_zret (pc := 24) (v := (1 : Int32)) C hr (nz_ok (by decide)) dX12_maySit_24 (Nat.le_of_ble_eq_true rfl) (Nat.le_of_ble_eq_true rfl)
  · refine e_icmp_lt (pc := 2) (tgt := 19) C dX12_maySit_2 (by decide) (fun q => absurd q c1) (fun _ => ?_)
    refine e_aload_n (pc := 5) C dX12_maySit_5 0 rfl rfl ?_
    obtain ⟨t2, hf⟩ := ck_e hf
    refine e_getr (pc := 6) 12 1 C dX12_maySit_6 (by decide) (by decide) g1402 rfl t2 ?_
    obtain ⟨b3, eb3, hf⟩ := ob_e hf
    refine e_rf eb3 ?_
    refine e_bipush (v := (7 : Int32)) (pc := 9) C dX12_maySit_9 (by decide) ?_
    obtain ⟨q4, hf⟩ := ck_e hf
    obtain ⟨n5, tn5, in5⟩ := ix_e q4
    refine e_iald (pc := 11) C dX12_maySit_11 tn5 in5 ?_
    refine e_iload_n (pc := 12) C dX12_maySit_12 1 rfl rfl ?_
    obtain ⟨r8, h6, y7, hf⟩ := cb_e hf
    refine e_callSi (pc := 13) (st := []) C (ct_X12_has y7) dX12_maySit_13 g1771 g1772 g157 g1773 hd_X12_has rfl ⟨Nat.le_of_ble_eq_true rfl, Nat.le_of_ble_eq_true rfl⟩ ⟨Nat.le_of_ble_eq_true rfl, Nat.le_of_ble_eq_true rfl⟩ rfl (Nat.le_of_ble_eq_true rfl) ?_
    rcases it_e hf with ⟨c9, hf⟩ | ⟨c9, hf⟩
    · refine e_if_ne (pc := 16) (tgt := 23) C dX12_maySit_16 (by decide) (fun q => absurd c9 q) (fun _ => ?_)
      refine e_iconst (v := (1 : Int32)) (pc := 19) C dX12_maySit_19 (by decide) ?_
      refine e_goto (pc := 20) (tgt := 24) C dX12_maySit_20 (by decide) ?_
      obtain rfl := so_e hf
      exact e_zret (pc := 24) (v := (1 : Int32)) C hr (nz_ok (by decide)) dX12_maySit_24 (Nat.le_of_ble_eq_true rfl) (Nat.le_of_ble_eq_true rfl)
    · refine e_if_ne (pc := 16) (tgt := 23) C dX12_maySit_16 (by decide) (fun _ => ?_) (fun q => absurd q c9)
      refine e_iconst (v := (0 : Int32)) (pc := 23) C dX12_maySit_23 (by decide) ?_
      obtain rfl := so_e hf
      exact e_zret (pc := 24) (v := (0 : Int32)) C hr (nz_ok (by decide)) dX12_maySit_24 (Nat.le_of_ble_eq_true rfl) (Nat.le_of_ble_eq_true rfl)
theorem dX12_sitterOf_0 : decode cX12_sitterOf 0 = .ok (.iconst 0, 1) := by decide +kernel
theorem dX12_sitterOf_1 : decode cX12_sitterOf 1 = .ok (.istore_n 2, 1) := by decide +kernel
theorem dX12_sitterOf_2 : decode cX12_sitterOf 2 = .ok (.iload_n 2, 1) := by decide +kernel
theorem dX12_sitterOf_3 : decode cX12_sitterOf 3 = .ok (.aload_n 0, 1) := by decide +kernel
theorem dX12_sitterOf_4 : decode cX12_sitterOf 4 = .ok (.getfield 9, 3) := by decide +kernel
theorem dX12_sitterOf_7 : decode cX12_sitterOf 7 = .ok (.bipush 6, 2) := by decide +kernel
theorem dX12_sitterOf_9 : decode cX12_sitterOf 9 = .ok (.iaload, 1) := by decide +kernel
theorem dX12_sitterOf_10 : decode cX12_sitterOf 10 = .ok (.if_icmp .ge 29, 3) := by decide +kernel
theorem dX12_sitterOf_13 : decode cX12_sitterOf 13 = .ok (.aload_n 0, 1) := by decide +kernel
theorem dX12_sitterOf_14 : decode cX12_sitterOf 14 = .ok (.iload_n 2, 1) := by decide +kernel
theorem dX12_sitterOf_15 : decode cX12_sitterOf 15 = .ok (.invokevirtual 449, 3) := by decide +kernel
theorem dX12_sitterOf_18 : decode cX12_sitterOf 18 = .ok (.ifCond .eq 15, 3) := by decide +kernel
theorem dX12_sitterOf_21 : decode cX12_sitterOf 21 = .ok (.aload_n 0, 1) := by decide +kernel
theorem dX12_sitterOf_22 : decode cX12_sitterOf 22 = .ok (.getfield 34, 3) := by decide +kernel
theorem dX12_sitterOf_25 : decode cX12_sitterOf 25 = .ok (.iload_n 2, 1) := by decide +kernel
theorem dX12_sitterOf_26 : decode cX12_sitterOf 26 = .ok (.iaload, 1) := by decide +kernel
theorem dX12_sitterOf_27 : decode cX12_sitterOf 27 = .ok (.iload_n 1, 1) := by decide +kernel
theorem dX12_sitterOf_28 : decode cX12_sitterOf 28 = .ok (.if_icmp .ne 5, 3) := by decide +kernel
theorem dX12_sitterOf_31 : decode cX12_sitterOf 31 = .ok (.iload_n 2, 1) := by decide +kernel
theorem dX12_sitterOf_32 : decode cX12_sitterOf 32 = .ok (.ireturn, 1) := by decide +kernel
theorem dX12_sitterOf_33 : decode cX12_sitterOf 33 = .ok (.iinc 2 1, 3) := by decide +kernel
theorem dX12_sitterOf_36 : decode cX12_sitterOf 36 = .ok (.goto (-34), 3) := by decide +kernel
theorem dX12_sitterOf_39 : decode cX12_sitterOf 39 = .ok (.iconst (-1), 1) := by decide +kernel
theorem dX12_sitterOf_40 : decode cX12_sitterOf 40 = .ok (.ireturn, 1) := by decide +kernel
def F_X12_sitterOf_2 (G : GG) (v0 : Nat) (v1 : Int32) (self_2 : Int32 → AH → Option (Int32 × AH)) (v2 : Int32) (h : AH) : Option (Int32 × AH) :=
ck (m_t h v0 = .inl 12) <|
ob (m_r h v0 1) fun b2 =>
ck (ixb h b2 .int (6 : Int32) = true) <|
if (m_i h b2 (6 : Int32).toNatClampNeg) ≤ v2 then (some ((-1 : Int32), h)) else
cb (f_X12_rides G v0 v2 h) fun r8 h6 =>
nn (fun (uu_33 : Unit) => (nn (v2 + (1 : Int32)) fun x9 =>
self_2 x9 h6)) fun j_33 =>
if r8 = 0 then (j_33 ()) else
ck (m_t h6 v0 = .inl 12) <|
ob (m_r h6 v0 9) fun b12 =>
ck (ixb h6 b12 .int v2 = true) <|
if (m_i h6 b12 v2.toNatClampNeg) = v1 then (some (v2, h6)) else
j_33 ()
def f_X12_sitterOf (G : GG) (v0 : Nat) (v1 : Int32) (h : AH) : Option (Int32 × AH) :=
lq1 (F_X12_sitterOf_2 G v0 v1 ) bN (0 : Int32) h
set_option maxHeartbeats 4000000 in
set_option maxRecDepth 100000 in
theorem el_X12_sitterOf_2 {G : GG} {p : Program} {l : Launch} {e : Env} {s : State} {m : MethodId} {args : Array Value} {below : List Frame} {meth : Method} {c : Code} {y : Int32 × AH} (C : Cx G cX12_sitterOf RX12 p s m args meth c) (hm : c.maxLocals = 3) (hr : meth.sig.returnType = (some .int)) (hin : meth.name = yX12_sitterOf.name) {v0 : Nat} {v1 : Int32}  :
    ∀ (n : Nat) (v2 : Int32) (h : AH), lq1 (F_X12_sitterOf_2 G v0 v1) n v2 h = some y → EE G p l e ({ frames := 1, cells := 0, slots := 0, locals := 21 } : Room) s m args below meth c (some (.int y.1), y.2) 0 0 2 [(0, .ref v0), (1, .int v1), (2, .int v2)] [] h 0 0 := by
  intro n
  induction n with
  | zero => intro v2 h hf; exact (no_e hf).elim
  | succ n ih_2 =>
    intro v2 h hf
    have hf : F_X12_sitterOf_2 G v0 v1 (lq1 (F_X12_sitterOf_2 G v0 v1) n) v2 h = some y := hf
    generalize lq1 (F_X12_sitterOf_2 G v0 v1) n = self_2 at hf ih_2
    unfold F_X12_sitterOf_2 at hf
    refine e_iload_n (pc := 2) C dX12_sitterOf_2 2 rfl rfl ?_
    refine e_aload_n (pc := 3) C dX12_sitterOf_3 0 rfl rfl ?_
    obtain ⟨t1, hf⟩ := ck_e hf
    refine e_getr (pc := 4) 12 1 C dX12_sitterOf_4 (by decide) (by decide) g1402 rfl t1 ?_
    obtain ⟨b2, eb2, hf⟩ := ob_e hf
    refine e_rf eb2 ?_
    refine e_bipush (v := (6 : Int32)) (pc := 7) C dX12_sitterOf_7 (by decide) ?_
    obtain ⟨q3, hf⟩ := ck_e hf
    obtain ⟨n4, tn4, in4⟩ := ix_e q3
    refine e_iald (pc := 9) C dX12_sitterOf_9 tn4 in4 ?_
    rcases it_e hf with ⟨c5, hf⟩ | ⟨c5, hf⟩
    · refine e_icmp_ge (pc := 10) (tgt := 39) C dX12_sitterOf_10 (by decide) (fun _ => ?_) (fun q => absurd c5 q)
      refine e_iconst (v := (-1 : Int32)) (pc := 39) C dX12_sitterOf_39 (by decide) ?_
      obtain rfl := so_e hf
      exact e_iret (pc := 40) C hr dX12_sitterOf_40 (Nat.le_of_ble_eq_true rfl) (Nat.le_of_ble_eq_true rfl)
    · refine e_icmp_ge (pc := 10) (tgt := 39) C dX12_sitterOf_10 (by decide) (fun q => absurd q c5) (fun _ => ?_)
      refine e_aload_n (pc := 13) C dX12_sitterOf_13 0 rfl rfl ?_
      refine e_iload_n (pc := 14) C dX12_sitterOf_14 2 rfl rfl ?_
      obtain ⟨r8, h6, y7, hf⟩ := cb_e hf
      refine e_callVi (pc := 15) (st := []) 12 C (ct_X12_rides y7) dX12_sitterOf_15 (by decide) t1 g1778 g1780 g76 g157 g1781 hd_X12_rides rfl ⟨Nat.le_of_ble_eq_true rfl, Nat.le_of_ble_eq_true rfl⟩ ⟨Nat.le_of_ble_eq_true rfl, Nat.le_of_ble_eq_true rfl⟩ rfl (Nat.le_of_ble_eq_true rfl) ?_
      obtain ⟨j_33, ej_33, hf⟩ := nn_e hf
      have W_33 : ∀ (uu_33 : Unit), j_33 uu_33 = some y → EE G p l e ({ frames := 1, cells := 0, slots := 0, locals := 21 } : Room) s m args below meth c (some (.int y.1), y.2) 0 0 33 [(0, .ref v0), (1, .int v1), (2, .int v2)] [] h6 0 0 := by
        intro uu_33 hf
        rw [ej_33] at hf
        obtain ⟨x9, ex9, hf⟩ := nn_e hf
        refine e_iinc (pc := 33) (v := x9) (lv2 := [(2, .int x9), (0, .ref v0), (1, .int v1)]) C hm dX12_sitterOf_33 2 rfl (by rw [ex9]; rfl) (by decide) rfl ?_
        refine e_goto (pc := 36) (tgt := 2) C dX12_sitterOf_36 (by decide) ?_
        refine e_lv (lv2 := [(0, .ref v0), (1, .int v1), (2, .int x9)]) [1, 2, 0] rfl ?_
        exact ih_2 x9 h6 hf
      rcases it_e hf with ⟨c10, hf⟩ | ⟨c10, hf⟩
      · refine e_if_eq (pc := 18) (tgt := 33) C dX12_sitterOf_18 (by decide) (fun _ => ?_) (fun q => absurd c10 q)
        exact W_33 () hf
      · refine e_if_eq (pc := 18) (tgt := 33) C dX12_sitterOf_18 (by decide) (fun q => absurd q c10) (fun _ => ?_)
        refine e_aload_n (pc := 21) C dX12_sitterOf_21 0 rfl rfl ?_
        obtain ⟨t11, hf⟩ := ck_e hf
        refine e_getr (pc := 22) 12 9 C dX12_sitterOf_22 (by decide) (by decide) g1410 rfl t11 ?_
        obtain ⟨b12, eb12, hf⟩ := ob_e hf
        refine e_rf eb12 ?_
        refine e_iload_n (pc := 25) C dX12_sitterOf_25 2 rfl rfl ?_
        obtain ⟨q13, hf⟩ := ck_e hf
        obtain ⟨n14, tn14, in14⟩ := ix_e q13
        refine e_iald (pc := 26) C dX12_sitterOf_26 tn14 in14 ?_
        refine e_iload_n (pc := 27) C dX12_sitterOf_27 1 rfl rfl ?_
        rcases it_e hf with ⟨c15, hf⟩ | ⟨c15, hf⟩
        · refine e_icmp_ne (pc := 28) (tgt := 33) C dX12_sitterOf_28 (by decide) (fun q => absurd c15 q) (fun _ => ?_)
          refine e_iload_n (pc := 31) C dX12_sitterOf_31 2 rfl rfl ?_
          obtain rfl := so_e hf
          exact e_iret (pc := 32) C hr dX12_sitterOf_32 (Nat.le_of_ble_eq_true rfl) (Nat.le_of_ble_eq_true rfl)
        · refine e_icmp_ne (pc := 28) (tgt := 33) C dX12_sitterOf_28 (by decide) (fun _ => ?_) (fun q => absurd q c15)
          exact W_33 () hf
set_option maxHeartbeats 4000000 in
set_option maxRecDepth 100000 in
theorem ct_X12_sitterOf {G : GG} {l : Launch} {v0 : Nat} {v1 : Int32} {h : AH} {y : Int32 × AH} (hf : f_X12_sitterOf G v0 v1 h = some y) : Ct G l yX12_sitterOf cX12_sitterOf 3 (some .int) 1 21 0 0 [.ref v0, .int v1] h (some (.int y.1), y.2) := by
  refine ct_of (by decide) (Nat.le_of_ble_eq_true rfl) ?_
  intro p e s m args below meth c C hm hr hin
  have C : Cx G cX12_sitterOf RX12 p s m args meth c := C
  refine e_lv (lv2 := [(0, .ref v0), (1, .int v1)]) [0, 1] rfl ?_
  unfold f_X12_sitterOf at hf
  refine e_iconst (v := (0 : Int32)) (pc := 0) C dX12_sitterOf_0 (by decide) ?_
  refine e_istore_n (pc := 1) (lv2 := [(2, .int (0 : Int32)), (0, .ref v0), (1, .int v1)]) C hm dX12_sitterOf_1 rfl (by decide) rfl ?_
  refine e_lv (lv2 := [(0, .ref v0), (1, .int v1), (2, .int (0 : Int32))]) [1, 2, 0] rfl ?_
  exact el_X12_sitterOf_2 C hm hr hin bN (0 : Int32) h hf
theorem dX12_sitsDown_0 : decode cX12_sitsDown 0 = .ok (.aload_n 0, 1) := by decide +kernel
theorem dX12_sitsDown_1 : decode cX12_sitsDown 1 = .ok (.iload_n 1, 1) := by decide +kernel
theorem dX12_sitsDown_2 : decode cX12_sitsDown 2 = .ok (.aload_n 0, 1) := by decide +kernel
theorem dX12_sitsDown_3 : decode cX12_sitsDown 3 = .ok (.getfield 16, 3) := by decide +kernel
theorem dX12_sitsDown_6 : decode cX12_sitsDown 6 = .ok (.iload_n 1, 1) := by decide +kernel
theorem dX12_sitsDown_7 : decode cX12_sitsDown 7 = .ok (.iaload, 1) := by decide +kernel
theorem dX12_sitsDown_8 : decode cX12_sitsDown 8 = .ok (.invokevirtual 479, 3) := by decide +kernel
theorem dX12_sitsDown_11 : decode cX12_sitsDown 11 = .ok (.ifCond .eq 26, 3) := by decide +kernel
theorem dX12_sitsDown_14 : decode cX12_sitsDown 14 = .ok (.aload_n 0, 1) := by decide +kernel
theorem dX12_sitsDown_15 : decode cX12_sitsDown 15 = .ok (.aload_n 0, 1) := by decide +kernel
theorem dX12_sitsDown_16 : decode cX12_sitsDown 16 = .ok (.getfield 16, 3) := by decide +kernel
theorem dX12_sitsDown_19 : decode cX12_sitsDown 19 = .ok (.iload_n 1, 1) := by decide +kernel
theorem dX12_sitsDown_20 : decode cX12_sitsDown 20 = .ok (.iaload, 1) := by decide +kernel
theorem dX12_sitsDown_21 : decode cX12_sitsDown 21 = .ok (.invokevirtual 471, 3) := by decide +kernel
theorem dX12_sitsDown_24 : decode cX12_sitsDown 24 = .ok (.iconst (-1), 1) := by decide +kernel
theorem dX12_sitsDown_25 : decode cX12_sitsDown 25 = .ok (.if_icmp .ne 12, 3) := by decide +kernel
theorem dX12_sitsDown_28 : decode cX12_sitsDown 28 = .ok (.aload_n 0, 1) := by decide +kernel
theorem dX12_sitsDown_29 : decode cX12_sitsDown 29 = .ok (.getfield 16, 3) := by decide +kernel
theorem dX12_sitsDown_32 : decode cX12_sitsDown 32 = .ok (.iload_n 1, 1) := by decide +kernel
theorem dX12_sitsDown_33 : decode cX12_sitsDown 33 = .ok (.iaload, 1) := by decide +kernel
theorem dX12_sitsDown_34 : decode cX12_sitsDown 34 = .ok (.goto 4, 3) := by decide +kernel
theorem dX12_sitsDown_37 : decode cX12_sitsDown 37 = .ok (.iconst (-1), 1) := by decide +kernel
theorem dX12_sitsDown_38 : decode cX12_sitsDown 38 = .ok (.istore_n 2, 1) := by decide +kernel
theorem dX12_sitsDown_39 : decode cX12_sitsDown 39 = .ok (.aload_n 0, 1) := by decide +kernel
theorem dX12_sitsDown_40 : decode cX12_sitsDown 40 = .ok (.getfield 9, 3) := by decide +kernel
theorem dX12_sitsDown_43 : decode cX12_sitsDown 43 = .ok (.bipush 7, 2) := by decide +kernel
theorem dX12_sitsDown_45 : decode cX12_sitsDown 45 = .ok (.iaload, 1) := by decide +kernel
theorem dX12_sitsDown_46 : decode cX12_sitsDown 46 = .ok (.iload_n 1, 1) := by decide +kernel
theorem dX12_sitsDown_47 : decode cX12_sitsDown 47 = .ok (.invokestatic 461, 3) := by decide +kernel
theorem dX12_sitsDown_50 : decode cX12_sitsDown 50 = .ok (.ifCond .eq 7, 3) := by decide +kernel
theorem dX12_sitsDown_53 : decode cX12_sitsDown 53 = .ok (.iconst 3, 1) := by decide +kernel
theorem dX12_sitsDown_54 : decode cX12_sitsDown 54 = .ok (.goto 5, 3) := by decide +kernel
theorem dX12_sitsDown_57 : decode cX12_sitsDown 57 = .ok (.bipush 7, 2) := by decide +kernel
theorem dX12_sitsDown_59 : decode cX12_sitsDown 59 = .ok (.istore_n 3, 1) := by decide +kernel
theorem dX12_sitsDown_60 : decode cX12_sitsDown 60 = .ok (.iconst 0, 1) := by decide +kernel
theorem dX12_sitsDown_61 : decode cX12_sitsDown 61 = .ok (.istore 4, 2) := by decide +kernel
theorem dX12_sitsDown_63 : decode cX12_sitsDown 63 = .ok (.iload 4, 2) := by decide +kernel
theorem dX12_sitsDown_65 : decode cX12_sitsDown 65 = .ok (.iload_n 3, 1) := by decide +kernel
theorem dX12_sitsDown_66 : decode cX12_sitsDown 66 = .ok (.if_icmp .gt 31, 3) := by decide +kernel
theorem dX12_sitsDown_69 : decode cX12_sitsDown 69 = .ok (.iload_n 2, 1) := by decide +kernel
theorem dX12_sitsDown_70 : decode cX12_sitsDown 70 = .ok (.iconst (-1), 1) := by decide +kernel
theorem dX12_sitsDown_71 : decode cX12_sitsDown 71 = .ok (.if_icmp .ne 26, 3) := by decide +kernel
theorem dX12_sitsDown_74 : decode cX12_sitsDown 74 = .ok (.aload_n 0, 1) := by decide +kernel
theorem dX12_sitsDown_75 : decode cX12_sitsDown 75 = .ok (.iload 4, 2) := by decide +kernel
theorem dX12_sitsDown_77 : decode cX12_sitsDown 77 = .ok (.invokevirtual 471, 3) := by decide +kernel
theorem dX12_sitsDown_80 : decode cX12_sitsDown 80 = .ok (.iconst (-1), 1) := by decide +kernel
theorem dX12_sitsDown_81 : decode cX12_sitsDown 81 = .ok (.if_icmp .ne 8, 3) := by decide +kernel
theorem dX12_sitsDown_84 : decode cX12_sitsDown 84 = .ok (.iload 4, 2) := by decide +kernel
theorem dX12_sitsDown_86 : decode cX12_sitsDown 86 = .ok (.goto 4, 3) := by decide +kernel
theorem dX12_sitsDown_89 : decode cX12_sitsDown 89 = .ok (.iconst (-1), 1) := by decide +kernel
theorem dX12_sitsDown_90 : decode cX12_sitsDown 90 = .ok (.istore_n 2, 1) := by decide +kernel
theorem dX12_sitsDown_91 : decode cX12_sitsDown 91 = .ok (.iinc 4 1, 3) := by decide +kernel
theorem dX12_sitsDown_94 : decode cX12_sitsDown 94 = .ok (.goto (-31), 3) := by decide +kernel
theorem dX12_sitsDown_97 : decode cX12_sitsDown 97 = .ok (.aload_n 0, 1) := by decide +kernel
theorem dX12_sitsDown_98 : decode cX12_sitsDown 98 = .ok (.getfield 37, 3) := by decide +kernel
theorem dX12_sitsDown_101 : decode cX12_sitsDown 101 = .ok (.iload_n 1, 1) := by decide +kernel
theorem dX12_sitsDown_102 : decode cX12_sitsDown 102 = .ok (.iconst 1, 1) := by decide +kernel
theorem dX12_sitsDown_103 : decode cX12_sitsDown 103 = .ok (.iastore, 1) := by decide +kernel
theorem dX12_sitsDown_104 : decode cX12_sitsDown 104 = .ok (.aload_n 0, 1) := by decide +kernel
theorem dX12_sitsDown_105 : decode cX12_sitsDown 105 = .ok (.getfield 34, 3) := by decide +kernel
theorem dX12_sitsDown_108 : decode cX12_sitsDown 108 = .ok (.iload_n 1, 1) := by decide +kernel
theorem dX12_sitsDown_109 : decode cX12_sitsDown 109 = .ok (.iload_n 2, 1) := by decide +kernel
theorem dX12_sitsDown_110 : decode cX12_sitsDown 110 = .ok (.iastore, 1) := by decide +kernel
theorem dX12_sitsDown_111 : decode cX12_sitsDown 111 = .ok (.return_, 1) := by decide +kernel
def F_X12_sitsDown_63 (G : GG) (v0 : Nat) (v1 : Int32) (v3 : Int32) (K_97 : Int32 → AH → Option (AH)) (self_63 : Int32 → Int32 → AH → Option (AH)) (v2 : Int32) (v4 : Int32) (h : AH) : Option (AH) :=
if v3 < v4 then (K_97 v2 h) else
if v2 = (-1 : Int32) then (ck (m_t h v0 = .inl 12) <|
cb (f_X12_sitterOf G v0 v4 h) fun r20 h18 =>
nn (fun (s0_90 : Int32) => (nn (v4 + (1 : Int32)) fun x21 =>
self_63 s0_90 x21 h18)) fun j_90 =>
if r20 = (-1 : Int32) then (j_90 v4) else
j_90 (-1 : Int32)) else
K_97 v2 h
def f_X12_sitsDown (G : GG) (v0 : Nat) (v1 : Int32) (h : AH) : Option (AH) :=
ck (m_t h v0 = .inl 12) <|
ob (m_r h v0 3) fun b2 =>
ck (ixb h b2 .int v1 = true) <|
cb (f_X12_maySit G v0 v1 (m_i h b2 v1.toNatClampNeg) h) fun r7 h5 =>
nn (fun (s0_38 : Int32) (h_38 : AH) => (ck (m_t h_38 v0 = .inl 12) <|
ob (m_r h_38 v0 1) fun b9 =>
ck (ixb h_38 b9 .int (7 : Int32) = true) <|
cb (f_X12_has G (m_i h_38 b9 (7 : Int32).toNatClampNeg) v1 h_38) fun r14 h12 =>
nn (fun (s0_59 : Int32) => (lq2 (F_X12_sitsDown_63 G v0 v1 s0_59 (fun (v2_97 : Int32) (h_97 : AH) => (ck (m_t h_97 v0 = .inl 12) <|
ob (m_r h_97 v0 10) fun b24 =>
ck (ixb h_97 b24 .int v1 = true) <|
nn (m_si h_97 b24 v1.toNatClampNeg (1 : Int32)) fun h27 =>
ob (m_r h27 v0 9) fun b28 =>
ck (ixb h27 b28 .int v1 = true) <|
nn (m_si h27 b28 v1.toNatClampNeg v2_97) fun h31 =>
some h31))) bN s0_38 (0 : Int32) h12)) fun j_59 =>
if r14 = 0 then (j_59 (7 : Int32)) else
j_59 (3 : Int32))) fun j_38 =>
nn (fun (h_37 : AH) => (j_38 (-1 : Int32) h_37)) fun j_37 =>
if r7 = 0 then (j_37 h5) else
ck (m_t h5 v0 = .inl 12) <|
ob (m_r h5 v0 3) fun b35 =>
ck (ixb h5 b35 .int v1 = true) <|
cb (f_X12_sitterOf G v0 (m_i h5 b35 v1.toNatClampNeg) h5) fun r40 h38 =>
if r40 = (-1 : Int32) then (ck (m_t h38 v0 = .inl 12) <|
ob (m_r h38 v0 3) fun b43 =>
ck (ixb h38 b43 .int v1 = true) <|
j_38 (m_i h38 b43 v1.toNatClampNeg) h38) else
j_37 h38
set_option maxHeartbeats 4000000 in
set_option maxRecDepth 100000 in
theorem el_X12_sitsDown_63 {G : GG} {p : Program} {l : Launch} {e : Env} {s : State} {m : MethodId} {args : Array Value} {below : List Frame} {meth : Method} {c : Code} {y : AH} (C : Cx G cX12_sitsDown RX12 p s m args meth c) (hm : c.maxLocals = 5) (hr : meth.sig.returnType = none) (hin : meth.name = yX12_sitsDown.name) {v0 : Nat} {v1 : Int32} {v3 : Int32} {K_97 : Int32 → AH → Option (AH)} (hK_97 : ∀ (w2 : Int32) (h : AH), K_97 w2 h = some y → EE G p l e ({ frames := 2, cells := 0, slots := 0, locals := 43 } : Room) s m args below meth c (none, y) 0 0 97 [(0, .ref v0), (1, .int v1), (2, .int w2)] [] h 0 0) :
    ∀ (n : Nat) (v2 : Int32) (v4 : Int32) (h : AH), lq2 (F_X12_sitsDown_63 G v0 v1 v3 K_97) n v2 v4 h = some y → EE G p l e ({ frames := 2, cells := 0, slots := 0, locals := 43 } : Room) s m args below meth c (none, y) 0 0 63 [(0, .ref v0), (1, .int v1), (2, .int v2), (3, .int v3), (4, .int v4)] [] h 0 0 := by
  intro n
  induction n with
  | zero => intro v2 v4 h hf; exact (no_e hf).elim
  | succ n ih_63 =>
    intro v2 v4 h hf
    have hf : F_X12_sitsDown_63 G v0 v1 v3 K_97 (lq2 (F_X12_sitsDown_63 G v0 v1 v3 K_97) n) v2 v4 h = some y := hf
    generalize lq2 (F_X12_sitsDown_63 G v0 v1 v3 K_97) n = self_63 at hf ih_63
    unfold F_X12_sitsDown_63 at hf
    refine e_iload (pc := 63) C dX12_sitsDown_63 4 rfl ?_
    refine e_iload_n (pc := 65) C dX12_sitsDown_65 3 rfl rfl ?_
    rcases it_e hf with ⟨c15, hf⟩ | ⟨c15, hf⟩
    · refine e_icmp_gt (pc := 66) (tgt := 97) C dX12_sitsDown_66 (by decide) (fun _ => ?_) (fun q => absurd c15 q)
      refine e_lv (lv2 := [(0, .ref v0), (1, .int v1), (2, .int v2)]) [0, 1, 2] rfl ?_
      exact hK_97 v2 h hf
    · refine e_icmp_gt (pc := 66) (tgt := 97) C dX12_sitsDown_66 (by decide) (fun q => absurd q c15) (fun _ => ?_)
      refine e_iload_n (pc := 69) C dX12_sitsDown_69 2 rfl rfl ?_
      refine e_iconst (v := (-1 : Int32)) (pc := 70) C dX12_sitsDown_70 (by decide) ?_
      rcases it_e hf with ⟨c16, hf⟩ | ⟨c16, hf⟩
      · refine e_icmp_ne (pc := 71) (tgt := 97) C dX12_sitsDown_71 (by decide) (fun q => absurd c16 q) (fun _ => ?_)
        refine e_aload_n (pc := 74) C dX12_sitsDown_74 0 rfl rfl ?_
        refine e_iload (pc := 75) C dX12_sitsDown_75 4 rfl ?_
        obtain ⟨t17, hf⟩ := ck_e hf
        obtain ⟨r20, h18, y19, hf⟩ := cb_e hf
        refine e_callVi (pc := 77) (st := []) 12 C (ct_X12_sitterOf y19) dX12_sitsDown_77 (by decide) t17 g1774 g1776 g75 g157 g1777 hd_X12_sitterOf rfl ⟨Nat.le_of_ble_eq_true rfl, Nat.le_of_ble_eq_true rfl⟩ ⟨Nat.le_of_ble_eq_true rfl, Nat.le_of_ble_eq_true rfl⟩ rfl (Nat.le_of_ble_eq_true rfl) ?_
        refine e_iconst (v := (-1 : Int32)) (pc := 80) C dX12_sitsDown_80 (by decide) ?_
        obtain ⟨j_90, ej_90, hf⟩ := nn_e hf
        have W_90 : ∀ (s0_90 : Int32), j_90 s0_90 = some y → EE G p l e ({ frames := 2, cells := 0, slots := 0, locals := 43 } : Room) s m args below meth c (none, y) 0 0 90 [(0, .ref v0), (1, .int v1), (3, .int v3), (4, .int v4)] [.int s0_90] h18 0 0 := by
          intro s0_90 hf
          rw [ej_90] at hf
          refine e_istore_n (pc := 90) (lv2 := [(2, .int s0_90), (0, .ref v0), (1, .int v1), (3, .int v3), (4, .int v4)]) C hm dX12_sitsDown_90 rfl (by decide) rfl ?_
          obtain ⟨x21, ex21, hf⟩ := nn_e hf
          refine e_iinc (pc := 91) (v := x21) (lv2 := [(4, .int x21), (2, .int s0_90), (0, .ref v0), (1, .int v1), (3, .int v3)]) C hm dX12_sitsDown_91 4 rfl (by rw [ex21]; rfl) (by decide) rfl ?_
          refine e_goto (pc := 94) (tgt := 63) C dX12_sitsDown_94 (by decide) ?_
          refine e_lv (lv2 := [(0, .ref v0), (1, .int v1), (2, .int s0_90), (3, .int v3), (4, .int x21)]) [2, 3, 1, 4, 0] rfl ?_
          exact ih_63 s0_90 x21 h18 hf
        rcases it_e hf with ⟨c22, hf⟩ | ⟨c22, hf⟩
        · refine e_icmp_ne (pc := 81) (tgt := 89) C dX12_sitsDown_81 (by decide) (fun q => absurd c22 q) (fun _ => ?_)
          refine e_iload (pc := 84) C dX12_sitsDown_84 4 rfl ?_
          refine e_goto (pc := 86) (tgt := 90) C dX12_sitsDown_86 (by decide) ?_
          refine e_lv (lv2 := [(0, .ref v0), (1, .int v1), (3, .int v3), (4, .int v4)]) [0, 1, 3, 4] rfl ?_
          exact W_90 v4 hf
        · refine e_icmp_ne (pc := 81) (tgt := 89) C dX12_sitsDown_81 (by decide) (fun _ => ?_) (fun q => absurd q c22)
          refine e_iconst (v := (-1 : Int32)) (pc := 89) C dX12_sitsDown_89 (by decide) ?_
          refine e_lv (lv2 := [(0, .ref v0), (1, .int v1), (3, .int v3), (4, .int v4)]) [0, 1, 3, 4] rfl ?_
          exact W_90 (-1 : Int32) hf
      · refine e_icmp_ne (pc := 71) (tgt := 97) C dX12_sitsDown_71 (by decide) (fun _ => ?_) (fun q => absurd q c16)
        refine e_lv (lv2 := [(0, .ref v0), (1, .int v1), (2, .int v2)]) [0, 1, 2] rfl ?_
        exact hK_97 v2 h hf
set_option maxHeartbeats 4000000 in
set_option maxRecDepth 100000 in
theorem ct_X12_sitsDown {G : GG} {l : Launch} {v0 : Nat} {v1 : Int32} {h : AH} {y : AH} (hf : f_X12_sitsDown G v0 v1 h = some y) : Ct G l yX12_sitsDown cX12_sitsDown 5 none 2 43 0 0 [.ref v0, .int v1] h (none, y) := by
  refine ct_of (by decide) (Nat.le_of_ble_eq_true rfl) ?_
  intro p e s m args below meth c C hm hr hin
  have C : Cx G cX12_sitsDown RX12 p s m args meth c := C
  refine e_lv (lv2 := [(0, .ref v0), (1, .int v1)]) [0, 1] rfl ?_
  unfold f_X12_sitsDown at hf
  refine e_aload_n (pc := 0) C dX12_sitsDown_0 0 rfl rfl ?_
  refine e_iload_n (pc := 1) C dX12_sitsDown_1 1 rfl rfl ?_
  refine e_aload_n (pc := 2) C dX12_sitsDown_2 0 rfl rfl ?_
  obtain ⟨t1, hf⟩ := ck_e hf
  refine e_getr (pc := 3) 12 3 C dX12_sitsDown_3 (by decide) (by decide) g1404 rfl t1 ?_
  obtain ⟨b2, eb2, hf⟩ := ob_e hf
  refine e_rf eb2 ?_
  refine e_iload_n (pc := 6) C dX12_sitsDown_6 1 rfl rfl ?_
  obtain ⟨q3, hf⟩ := ck_e hf
  obtain ⟨n4, tn4, in4⟩ := ix_e q3
  refine e_iald (pc := 7) C dX12_sitsDown_7 tn4 in4 ?_
  obtain ⟨r7, h5, y6, hf⟩ := cb_e hf
  refine e_callVi (pc := 8) (st := []) 12 C (ct_X12_maySit y6) dX12_sitsDown_8 (by decide) t1 g1767 g1769 g74 g157 g1770 hd_X12_maySit rfl ⟨Nat.le_of_ble_eq_true rfl, Nat.le_of_ble_eq_true rfl⟩ ⟨Nat.le_of_ble_eq_true rfl, Nat.le_of_ble_eq_true rfl⟩ rfl (Nat.le_of_ble_eq_true rfl) ?_
  obtain ⟨j_38, ej_38, hf⟩ := nn_e hf
  have W_38 : ∀ (s0_38 : Int32) (h_38 : AH), j_38 s0_38 h_38 = some y → EE G p l e ({ frames := 2, cells := 0, slots := 0, locals := 43 } : Room) s m args below meth c (none, y) 0 0 38 [(0, .ref v0), (1, .int v1)] [.int s0_38] h_38 0 0 := by
    intro s0_38 h_38 hf
    rw [ej_38] at hf
    refine e_istore_n (pc := 38) (lv2 := [(2, .int s0_38), (0, .ref v0), (1, .int v1)]) C hm dX12_sitsDown_38 rfl (by decide) rfl ?_
    refine e_aload_n (pc := 39) C dX12_sitsDown_39 1 rfl rfl ?_
    obtain ⟨t8, hf⟩ := ck_e hf
    refine e_getr (pc := 40) 12 1 C dX12_sitsDown_40 (by decide) (by decide) g1402 rfl t8 ?_
    obtain ⟨b9, eb9, hf⟩ := ob_e hf
    refine e_rf eb9 ?_
    refine e_bipush (v := (7 : Int32)) (pc := 43) C dX12_sitsDown_43 (by decide) ?_
    obtain ⟨q10, hf⟩ := ck_e hf
    obtain ⟨n11, tn11, in11⟩ := ix_e q10
    refine e_iald (pc := 45) C dX12_sitsDown_45 tn11 in11 ?_
    refine e_iload_n (pc := 46) C dX12_sitsDown_46 2 rfl rfl ?_
    obtain ⟨r14, h12, y13, hf⟩ := cb_e hf
    refine e_callSi (pc := 47) (st := []) C (ct_X12_has y13) dX12_sitsDown_47 g1771 g1772 g157 g1773 hd_X12_has rfl ⟨Nat.le_of_ble_eq_true rfl, Nat.le_of_ble_eq_true rfl⟩ ⟨Nat.le_of_ble_eq_true rfl, Nat.le_of_ble_eq_true rfl⟩ rfl (Nat.le_of_ble_eq_true rfl) ?_
    obtain ⟨j_59, ej_59, hf⟩ := nn_e hf
    have W_59 : ∀ (s0_59 : Int32), j_59 s0_59 = some y → EE G p l e ({ frames := 2, cells := 0, slots := 0, locals := 43 } : Room) s m args below meth c (none, y) 0 0 59 [(0, .ref v0), (1, .int v1), (2, .int s0_38)] [.int s0_59] h12 0 0 := by
      intro s0_59 hf
      rw [ej_59] at hf
      refine e_istore_n (pc := 59) (lv2 := [(3, .int s0_59), (0, .ref v0), (1, .int v1), (2, .int s0_38)]) C hm dX12_sitsDown_59 rfl (by decide) rfl ?_
      refine e_iconst (v := (0 : Int32)) (pc := 60) C dX12_sitsDown_60 (by decide) ?_
      refine e_istore (pc := 61) (lv2 := [(4, .int (0 : Int32)), (3, .int s0_59), (0, .ref v0), (1, .int v1), (2, .int s0_38)]) C hm dX12_sitsDown_61 (by decide) rfl ?_
      refine e_lv (lv2 := [(0, .ref v0), (1, .int v1), (2, .int s0_38), (3, .int s0_59), (4, .int (0 : Int32))]) [2, 3, 4, 1, 0] rfl ?_
      refine el_X12_sitsDown_63 C hm hr hin (fun v2_97 h_97 hf => ?_) bN s0_38 (0 : Int32) h12 hf
      refine e_aload_n (pc := 97) C dX12_sitsDown_97 0 rfl rfl ?_
      obtain ⟨t23, hf⟩ := ck_e hf
      refine e_getr (pc := 98) 12 10 C dX12_sitsDown_98 (by decide) (by decide) g1411 rfl t23 ?_
      obtain ⟨b24, eb24, hf⟩ := ob_e hf
      refine e_rf eb24 ?_
      refine e_iload_n (pc := 101) C dX12_sitsDown_101 1 rfl rfl ?_
      refine e_iconst (v := (1 : Int32)) (pc := 102) C dX12_sitsDown_102 (by decide) ?_
      obtain ⟨q25, hf⟩ := ck_e hf
      obtain ⟨n26, tn26, in26⟩ := ix_e q25
      refine e_iast (pc := 103) C dX12_sitsDown_103 tn26 in26 ?_
      obtain ⟨h27, eh27, hf⟩ := nn_e hf
      refine e_hp eh27 ?_
      have uh27 : m_t h27 = m_t h_97 := by rw [eh27]; exact rfl
      refine e_aload_n (pc := 104) C dX12_sitsDown_104 0 rfl rfl ?_
      refine e_getr (pc := 105) 12 9 C dX12_sitsDown_105 (by decide) (by decide) g1410 rfl (e_mt uh27 t23) ?_
      obtain ⟨b28, eb28, hf⟩ := ob_e hf
      refine e_rf eb28 ?_
      refine e_iload_n (pc := 108) C dX12_sitsDown_108 1 rfl rfl ?_
      refine e_iload_n (pc := 109) C dX12_sitsDown_109 2 rfl rfl ?_
      obtain ⟨q29, hf⟩ := ck_e hf
      obtain ⟨n30, tn30, in30⟩ := ix_e q29
      refine e_iast (pc := 110) C dX12_sitsDown_110 tn30 in30 ?_
      obtain ⟨h31, eh31, hf⟩ := nn_e hf
      refine e_hp eh31 ?_
      have uh31 : m_t h31 = m_t h_97 := by rw [eh31]; exact uh27
      obtain rfl := so_e hf
      exact e_vret (pc := 111) C hr dX12_sitsDown_111 (Nat.le_of_ble_eq_true rfl) (Nat.le_of_ble_eq_true rfl)
    rcases it_e hf with ⟨c32, hf⟩ | ⟨c32, hf⟩
    · refine e_if_eq (pc := 50) (tgt := 57) C dX12_sitsDown_50 (by decide) (fun _ => ?_) (fun q => absurd c32 q)
      refine e_bipush (v := (7 : Int32)) (pc := 57) C dX12_sitsDown_57 (by decide) ?_
      refine e_lv (lv2 := [(0, .ref v0), (1, .int v1), (2, .int s0_38)]) [1, 2, 0] rfl ?_
      exact W_59 (7 : Int32) hf
    · refine e_if_eq (pc := 50) (tgt := 57) C dX12_sitsDown_50 (by decide) (fun q => absurd q c32) (fun _ => ?_)
      refine e_iconst (v := (3 : Int32)) (pc := 53) C dX12_sitsDown_53 (by decide) ?_
      refine e_goto (pc := 54) (tgt := 59) C dX12_sitsDown_54 (by decide) ?_
      refine e_lv (lv2 := [(0, .ref v0), (1, .int v1), (2, .int s0_38)]) [1, 2, 0] rfl ?_
      exact W_59 (3 : Int32) hf
  obtain ⟨j_37, ej_37, hf⟩ := nn_e hf
  have W_37 : ∀ (h_37 : AH), j_37 h_37 = some y → EE G p l e ({ frames := 2, cells := 0, slots := 0, locals := 43 } : Room) s m args below meth c (none, y) 0 0 37 [(0, .ref v0), (1, .int v1)] [] h_37 0 0 := by
    intro h_37 hf
    rw [ej_37] at hf
    refine e_iconst (v := (-1 : Int32)) (pc := 37) C dX12_sitsDown_37 (by decide) ?_
    exact W_38 (-1 : Int32) h_37 hf
  rcases it_e hf with ⟨c33, hf⟩ | ⟨c33, hf⟩
  · refine e_if_eq (pc := 11) (tgt := 37) C dX12_sitsDown_11 (by decide) (fun _ => ?_) (fun q => absurd c33 q)
    exact W_37 h5 hf
  · refine e_if_eq (pc := 11) (tgt := 37) C dX12_sitsDown_11 (by decide) (fun q => absurd q c33) (fun _ => ?_)
    refine e_aload_n (pc := 14) C dX12_sitsDown_14 0 rfl rfl ?_
    refine e_aload_n (pc := 15) C dX12_sitsDown_15 0 rfl rfl ?_
    obtain ⟨t34, hf⟩ := ck_e hf
    refine e_getr (pc := 16) 12 3 C dX12_sitsDown_16 (by decide) (by decide) g1404 rfl t34 ?_
    obtain ⟨b35, eb35, hf⟩ := ob_e hf
    refine e_rf eb35 ?_
    refine e_iload_n (pc := 19) C dX12_sitsDown_19 1 rfl rfl ?_
    obtain ⟨q36, hf⟩ := ck_e hf
    obtain ⟨n37, tn37, in37⟩ := ix_e q36
    refine e_iald (pc := 20) C dX12_sitsDown_20 tn37 in37 ?_
    obtain ⟨r40, h38, y39, hf⟩ := cb_e hf
    refine e_callVi (pc := 21) (st := []) 12 C (ct_X12_sitterOf y39) dX12_sitsDown_21 (by decide) t34 g1774 g1776 g75 g157 g1777 hd_X12_sitterOf rfl ⟨Nat.le_of_ble_eq_true rfl, Nat.le_of_ble_eq_true rfl⟩ ⟨Nat.le_of_ble_eq_true rfl, Nat.le_of_ble_eq_true rfl⟩ rfl (Nat.le_of_ble_eq_true rfl) ?_
    refine e_iconst (v := (-1 : Int32)) (pc := 24) C dX12_sitsDown_24 (by decide) ?_
    rcases it_e hf with ⟨c41, hf⟩ | ⟨c41, hf⟩
    · refine e_icmp_ne (pc := 25) (tgt := 37) C dX12_sitsDown_25 (by decide) (fun q => absurd c41 q) (fun _ => ?_)
      refine e_aload_n (pc := 28) C dX12_sitsDown_28 0 rfl rfl ?_
      obtain ⟨t42, hf⟩ := ck_e hf
      refine e_getr (pc := 29) 12 3 C dX12_sitsDown_29 (by decide) (by decide) g1404 rfl t42 ?_
      obtain ⟨b43, eb43, hf⟩ := ob_e hf
      refine e_rf eb43 ?_
      refine e_iload_n (pc := 32) C dX12_sitsDown_32 1 rfl rfl ?_
      obtain ⟨q44, hf⟩ := ck_e hf
      obtain ⟨n45, tn45, in45⟩ := ix_e q44
      refine e_iald (pc := 33) C dX12_sitsDown_33 tn45 in45 ?_
      refine e_goto (pc := 34) (tgt := 38) C dX12_sitsDown_34 (by decide) ?_
      exact W_38 (m_i h38 b43 v1.toNatClampNeg) h38 hf
    · refine e_icmp_ne (pc := 25) (tgt := 37) C dX12_sitsDown_25 (by decide) (fun _ => ?_) (fun q => absurd q c41)
      exact W_37 h38 hf
